def rm_X6_init : Room := { frames := 2, cells := 46, slots := 3062, locals := 60 }
set_option maxHeartbeats 8000000 in
set_option maxRecDepth 100000 in
theorem m_X6_init (l : Launch) (G : va_G) (cA : Nat → ClassId) (h0 sz : Nat) : MID l yX6_init (.code yX6_init cX6_init 2 none :: wd) rm_X6_init G cA [.ref h0] (h0, .inr (4, [.null, .null, .null, .null, .null, .null])) sz 46 3062 := by
  refine Met.ofW (cc := cX6_init) (maxL := 2) (ret := none) (by decide) rfl ?_
  intro p e s m args below meth c s₁ B hml hv
  obtain ⟨rfl, hsz, hK, hP, hD0, hAO, hNl, hNw⟩ := hv
  have hx := B.exec
  have hb := B.bytes
  have hr := B.returns
  have hlocks := B.notSynchronized
  have hts : ∀ w ∈ wd, w.before ([.ref h0] : List Value).toArray s = true := fun w h => atoms_spec (ws := (.code yX6_init cX6_init 2 none :: wd)) B.pre w (List.mem_cons_of_mem _ h)
  have hown : s.vm.findClass RX6 = some m.cls := findClass_of_methodNamed B.named
  have hin : meth.name = "<init>" := (name_of_methodNamed B.named B.method).1
  subst hsz
  have hD := hD0.self (sz := s.heap.size)
  show W p l e rm_X6_init s m _ below meth c s.heap [] 0 0 (MQ below (va_Qv (fun Q : Nat → Nat → Nat => Q 0 0 = h0) (fun Q t => va_P G vwCl (wDesk cA Q zDesk0) t.heap ∧ va_D (va_A [(h0, .inr (4, [.null, .null, .null, .null, .null, .null]))] s.heap.size) (wDesk cA Q zDesk0)) (va_A [(h0, .inr (4, [.null, .null, .null, .null, .null, .null]))] s.heap.size)) _ s 46 3062 (va_A [(h0, .inr (4, [.null, .null, .null, .null, .null, .null]))] s.heap.size)) _
  generalize hAe : va_A [(h0, .inr (4, [.null, .null, .null, .null, .null, .null]))] s.heap.size = A at hD ⊢
  have hA : ∀ q : Nat, s.heap.size ≤ q → A q := fun q h => by rw [← hAe]; exact Or.inr h
  have hS : va_S A s.heap s.heap [] := va_S.rf
  have hl := lv_entry ([.ref h0]) (n := 2) (Nat.le_of_ble_eq_true rfl)
  rw [lg_entry_eq]
  generalize (lg_sl ([.ref h0]) ++ List.replicate (2 - (lg_sl ([.ref h0])).length) Slot.unset).toArray = ls at hl ⊢
  have hl : lv_has ls 2 [(0, .ref h0)] := hl
  refine lv_aload_n hx hb dX6_init_0 rfl (lv_at hl 0 rfl) ?_
  refine W.objInit hx hb hown (hts _ wo_X6) (hts _ wo_inst) (hts _ wo_code) rfl (by rw [hml]; exact hl.1) rfl dX6_init_1 (Nat.le_of_ble_eq_true rfl) (Nat.le_of_ble_eq_true rfl) ?_
  refine W.eq (g2 := F0 m 4 ls []) rfl ?_
  refine lv_aload_n hx hb dX6_init_4 rfl (lv_at hl 0 rfl) ?_
  refine lv_bipush (v := nI 8) hx hb dX6_init_5 (by decide) ?_
  refine k_newq (N := 8) hx hb hown (hts _ wi_77) hAO hK.1 hP hD hS hA (by decide) (by decide) (by decide) dX6_init_7 (fun qa H hP hD hS => ?_)
  obtain ⟨t0, ht0⟩ : ∃ t : va_W, t = [] := ⟨_, rfl⟩
  have hP : va_P G vwCl ((h0, .inr (4, [.null, .null, .null, .null, .null, .null])) :: (qa, .inl (cA 3, 8, .inr (.inr (.inr (.inr (fun _ => none)))))) :: t0) H := by rw [ht0]; exact hP
  have hD : va_D A ((h0, .inr (4, [.null, .null, .null, .null, .null, .null])) :: (qa, .inl (cA 3, 8, .inr (.inr (.inr (.inr (fun _ => none)))))) :: t0) := by rw [ht0]; exact hD
  refine W.widen (k := 1) (n := 8) (by omega) (by omega) ?_
  refine va_putF (D := G) (ci := 4) (v := .ref qa) (ty := .array (.object "AntiDesk$Sum")) (C := RX6) (T := TX6) (N := 6) hx hb hts fin_X6 tyX6 tyX6_ok nmX6 hown hK.1 hP hD hS 0 rfl rfl 0 (by decide) (hts _ wi_171) (fun _ h9 => h9) rfl hin rfl (by decide +kernel) rfl rfl (Nat.le_of_ble_eq_true rfl) dX6_init_10 (fun H locs hP hD hS => ?_)
  have hP : va_P G vwCl ((h0, .inr (4, [.ref qa, .null, .null, .null, .null, .null])) :: (qa, .inl (cA 3, 8, .inr (.inr (.inr (.inr (fun _ => none)))))) :: t0) H := hP
  have hD : va_D A ((h0, .inr (4, [.ref qa, .null, .null, .null, .null, .null])) :: (qa, .inl (cA 3, 8, .inr (.inr (.inr (.inr (fun _ => none)))))) :: t0) := hD
  refine lv_iconst (v := nI 0) hx hb dX6_init_13 (by decide) ?_
  refine lv_istore_n (lv' := [(1, .int (nI 0)), (0, .ref h0)]) hx hb dX6_init_14 rfl hl (by decide) rfl (fun ls hl => ?_)
  refine lv_iload_n hx hb dX6_init_15 rfl (lv_at hl 0 rfl) ?_
  refine lv_bipush (v := nI 8) hx hb dX6_init_16 (by decide) ?_
  refine lv_icmp_ge (tgt := 42) hx hb dX6_init_18 (by decide) (fun c1 => absurd c1 (by decide)) (fun c1 => ?_)
  refine lv_aload_n hx hb dX6_init_21 rfl (lv_at hl 1 rfl) ?_
  refine va_get (D := G) (ci := 4) (v := .ref qa) (C := RX6) (T := TX6) (N := 6) hx hb hts fin_X6 hown hK.1 hP 0 rfl rfl 0 (by decide) (hts _ wi_171) (fun _ h9 => h9) rfl dX6_init_22 ?_
  refine lv_iload_n hx hb dX6_init_25 rfl (lv_at hl 0 rfl) ?_
  refine va_new (ci := 2) (fs := [.int 0, .null, .null, .null, .int 0, .int 0]) (C := RX4) (T := TX4) (N := 6) hx hb hts fin_X4 tyX4 tyX4_ok hown (hts _ wi_77) (hts _ wi_79) (hts _ wi_56) hK.1 hP hD hS hA rfl (fun j hj => by match j, hj with | 0, _ => rfl | 1, _ => rfl | 2, _ => rfl | 3, _ => rfl | 4, _ => rfl | 5, _ => rfl | _ + 6, h => exact absurd h (by omega)) (by decide) (by decide) dX6_init_26 (fun n1 H hP hD hS => ?_)
  refine W.widen (k := 2) (n := 14) (by omega) (by omega) ?_
  refine lv_dup hx hb dX6_init_29 rfl ?_
  refine lv_bipush (v := nI 40) hx hb dX6_init_30 (by decide) ?_
  refine cCtor (X := ((h0, .inr (4, [.ref qa, .null, .null, .null, .null, .null])) :: (qa, .inl (cA 3, 8, .inr (.inr (.inr (.inr (fun _ => none)))))) :: t0)) (w0 := (n1, .inr (2, [.int 0, .null, .null, .null, .int 0, .int 0]))) (b := fun q : Nat → Nat => q 0) (va_runI (As := [.int (nI 40)]) (rest := [.ref n1, .int (nI 0), .ref qa]) (g := F0 m 32 ls _) ⟨hx, hb, hml, hown, hts⟩ (m_X4_init l G cA n1 H.size 40 (by decide)) (cwI9 1 hts wi_82 wi_81 wi_56 wi_80 rfl (by decide +kernel) rfl rfl ⟨Nat.le_of_ble_eq_true rfl, Nat.le_of_ble_eq_true rfl⟩) ⟨cI.blind, preI hK hP⟩ rfl rfl hl.1 rfl (lv_room (Nat.le_of_ble_eq_true rfl)) dX6_init_32 ⟨Nat.le_of_ble_eq_true rfl, Nat.le_of_ble_eq_true rfl⟩) hP hD hS hA (fun b1 H9 locs9 hw hP9 hD9 hS9 => ?_)
  clear hP hD hS
  have hw : b1 0 = n1 := hw
  subst hw
  generalize H9 = H at hP9 hS9 ⊢
  generalize locs9 = locs at hS9 ⊢
  have hS := hS9
  have hP : va_P G vwCl ((h0, .inr (4, [.ref qa, .null, .null, .null, .null, .null])) :: (qa, .inl (cA 3, 8, .inr (.inr (.inr (.inr (fun _ => none)))))) :: (t0 ++ wSum cA b1 40 zSum0)) H := hP9
  have hD : va_D A ((h0, .inr (4, [.ref qa, .null, .null, .null, .null, .null])) :: (qa, .inl (cA 3, 8, .inr (.inr (.inr (.inr (fun _ => none)))))) :: (t0 ++ wSum cA b1 40 zSum0)) := hD9
  clear hP9 hD9 hS9
  refine W.widen (k := 5) (n := 134) (by omega) (by omega) ?_
  refine va_astq (r := (RX4, TX4, 6)) hx hb hK.1 hP hD hS 1 3 (2 + t0.length) 2 rfl rfl (tail_at _ _ _ _ _ _ _) rfl (vp_in_nI (by decide) (by decide)) dX6_init_35 (fun H locs hP hD hS => ?_)
  have hP : va_P G vwCl ((h0, .inr (4, [.ref qa, .null, .null, .null, .null, .null])) :: (qa, .inl (cA 3, 8, .inr (.inr (.inr (.inr (va_up (fun _ => none) (nI 0).toNatClampNeg (some (b1 0)))))))) :: (t0 ++ wSum cA b1 40 zSum0)) H := hP
  have hD : va_D A ((h0, .inr (4, [.ref qa, .null, .null, .null, .null, .null])) :: (qa, .inl (cA 3, 8, .inr (.inr (.inr (.inr (va_up (fun _ => none) (nI 0).toNatClampNeg (some (b1 0)))))))) :: (t0 ++ wSum cA b1 40 zSum0)) := hD
  obtain ⟨t1, ht1⟩ : ∃ t : va_W, t = (t0 ++ wSum cA b1 40 zSum0) := ⟨_, rfl⟩
  rw [← ht1] at hP hD
  refine lv_iinc (v := nI 1) (lv' := [(1, .int (nI 1)), (0, .ref h0)]) hx hb dX6_init_36 hl (k := 0) rfl (by decide) (by decide) rfl (fun ls hl => ?_)
  refine lv_goto (tgt := 15) hx hb dX6_init_39 (by decide) ?_
  refine lv_iload_n hx hb dX6_init_15 rfl (lv_at hl 0 rfl) ?_
  refine lv_bipush (v := nI 8) hx hb dX6_init_16 (by decide) ?_
  refine lv_icmp_ge (tgt := 42) hx hb dX6_init_18 (by decide) (fun c1 => absurd c1 (by decide)) (fun c1 => ?_)
  refine lv_aload_n hx hb dX6_init_21 rfl (lv_at hl 1 rfl) ?_
  refine va_get (D := G) (ci := 4) (v := .ref qa) (C := RX6) (T := TX6) (N := 6) hx hb hts fin_X6 hown hK.1 hP 0 rfl rfl 0 (by decide) (hts _ wi_171) (fun _ h9 => h9) rfl dX6_init_22 ?_
  refine lv_iload_n hx hb dX6_init_25 rfl (lv_at hl 0 rfl) ?_
  refine va_new (ci := 2) (fs := [.int 0, .null, .null, .null, .int 0, .int 0]) (C := RX4) (T := TX4) (N := 6) hx hb hts fin_X4 tyX4 tyX4_ok hown (hts _ wi_77) (hts _ wi_79) (hts _ wi_56) hK.1 hP hD hS hA rfl (fun j hj => by match j, hj with | 0, _ => rfl | 1, _ => rfl | 2, _ => rfl | 3, _ => rfl | 4, _ => rfl | 5, _ => rfl | _ + 6, h => exact absurd h (by omega)) (by decide) (by decide) dX6_init_26 (fun n2 H hP hD hS => ?_)
  refine W.widen (k := 6) (n := 140) (by omega) (by omega) ?_
  refine lv_dup hx hb dX6_init_29 rfl ?_
  refine lv_bipush (v := nI 40) hx hb dX6_init_30 (by decide) ?_
  refine cCtor (X := ((h0, .inr (4, [.ref qa, .null, .null, .null, .null, .null])) :: (qa, .inl (cA 3, 8, .inr (.inr (.inr (.inr (va_up (fun _ => none) (nI 0).toNatClampNeg (some (b1 0)))))))) :: t1)) (w0 := (n2, .inr (2, [.int 0, .null, .null, .null, .int 0, .int 0]))) (b := fun q : Nat → Nat => q 0) (va_runI (As := [.int (nI 40)]) (rest := [.ref n2, .int (nI 1), .ref qa]) (g := F0 m 32 ls _) ⟨hx, hb, hml, hown, hts⟩ (m_X4_init l G cA n2 H.size 40 (by decide)) (cwI9 1 hts wi_82 wi_81 wi_56 wi_80 rfl (by decide +kernel) rfl rfl ⟨Nat.le_of_ble_eq_true rfl, Nat.le_of_ble_eq_true rfl⟩) ⟨cI.blind, preI hK hP⟩ rfl rfl hl.1 rfl (lv_room (Nat.le_of_ble_eq_true rfl)) dX6_init_32 ⟨Nat.le_of_ble_eq_true rfl, Nat.le_of_ble_eq_true rfl⟩) hP hD hS hA (fun b2 H9 locs9 hw hP9 hD9 hS9 => ?_)
  clear hP hD hS
  have hw : b2 0 = n2 := hw
  subst hw
  generalize H9 = H at hP9 hS9 ⊢
  generalize locs9 = locs at hS9 ⊢
  have hS := hS9
  have hP : va_P G vwCl ((h0, .inr (4, [.ref qa, .null, .null, .null, .null, .null])) :: (qa, .inl (cA 3, 8, .inr (.inr (.inr (.inr (va_up (fun _ => none) (nI 0).toNatClampNeg (some (b1 0)))))))) :: (t1 ++ wSum cA b2 40 zSum0)) H := hP9
  have hD : va_D A ((h0, .inr (4, [.ref qa, .null, .null, .null, .null, .null])) :: (qa, .inl (cA 3, 8, .inr (.inr (.inr (.inr (va_up (fun _ => none) (nI 0).toNatClampNeg (some (b1 0)))))))) :: (t1 ++ wSum cA b2 40 zSum0)) := hD9
  clear hP9 hD9 hS9
  refine W.widen (k := 9) (n := 260) (by omega) (by omega) ?_
  refine va_astq (r := (RX4, TX4, 6)) hx hb hK.1 hP hD hS 1 3 (2 + t1.length) 2 rfl rfl (tail_at _ _ _ _ _ _ _) rfl (vp_in_nI (by decide) (by decide)) dX6_init_35 (fun H locs hP hD hS => ?_)
  have hP : va_P G vwCl ((h0, .inr (4, [.ref qa, .null, .null, .null, .null, .null])) :: (qa, .inl (cA 3, 8, .inr (.inr (.inr (.inr (va_up (va_up (fun _ => none) (nI 0).toNatClampNeg (some (b1 0))) (nI 1).toNatClampNeg (some (b2 0)))))))) :: (t1 ++ wSum cA b2 40 zSum0)) H := hP
  have hD : va_D A ((h0, .inr (4, [.ref qa, .null, .null, .null, .null, .null])) :: (qa, .inl (cA 3, 8, .inr (.inr (.inr (.inr (va_up (va_up (fun _ => none) (nI 0).toNatClampNeg (some (b1 0))) (nI 1).toNatClampNeg (some (b2 0)))))))) :: (t1 ++ wSum cA b2 40 zSum0)) := hD
  obtain ⟨t2, ht2⟩ : ∃ t : va_W, t = (t1 ++ wSum cA b2 40 zSum0) := ⟨_, rfl⟩
  rw [← ht2] at hP hD
  refine lv_iinc (v := nI 2) (lv' := [(1, .int (nI 2)), (0, .ref h0)]) hx hb dX6_init_36 hl (k := 0) rfl (by decide) (by decide) rfl (fun ls hl => ?_)
  refine lv_goto (tgt := 15) hx hb dX6_init_39 (by decide) ?_
  refine lv_iload_n hx hb dX6_init_15 rfl (lv_at hl 0 rfl) ?_
  refine lv_bipush (v := nI 8) hx hb dX6_init_16 (by decide) ?_
  refine lv_icmp_ge (tgt := 42) hx hb dX6_init_18 (by decide) (fun c1 => absurd c1 (by decide)) (fun c1 => ?_)
  refine lv_aload_n hx hb dX6_init_21 rfl (lv_at hl 1 rfl) ?_
  refine va_get (D := G) (ci := 4) (v := .ref qa) (C := RX6) (T := TX6) (N := 6) hx hb hts fin_X6 hown hK.1 hP 0 rfl rfl 0 (by decide) (hts _ wi_171) (fun _ h9 => h9) rfl dX6_init_22 ?_
  refine lv_iload_n hx hb dX6_init_25 rfl (lv_at hl 0 rfl) ?_
  refine va_new (ci := 2) (fs := [.int 0, .null, .null, .null, .int 0, .int 0]) (C := RX4) (T := TX4) (N := 6) hx hb hts fin_X4 tyX4 tyX4_ok hown (hts _ wi_77) (hts _ wi_79) (hts _ wi_56) hK.1 hP hD hS hA rfl (fun j hj => by match j, hj with | 0, _ => rfl | 1, _ => rfl | 2, _ => rfl | 3, _ => rfl | 4, _ => rfl | 5, _ => rfl | _ + 6, h => exact absurd h (by omega)) (by decide) (by decide) dX6_init_26 (fun n3 H hP hD hS => ?_)
  refine W.widen (k := 10) (n := 266) (by omega) (by omega) ?_
  refine lv_dup hx hb dX6_init_29 rfl ?_
  refine lv_bipush (v := nI 40) hx hb dX6_init_30 (by decide) ?_
  refine cCtor (X := ((h0, .inr (4, [.ref qa, .null, .null, .null, .null, .null])) :: (qa, .inl (cA 3, 8, .inr (.inr (.inr (.inr (va_up (va_up (fun _ => none) (nI 0).toNatClampNeg (some (b1 0))) (nI 1).toNatClampNeg (some (b2 0)))))))) :: t2)) (w0 := (n3, .inr (2, [.int 0, .null, .null, .null, .int 0, .int 0]))) (b := fun q : Nat → Nat => q 0) (va_runI (As := [.int (nI 40)]) (rest := [.ref n3, .int (nI 2), .ref qa]) (g := F0 m 32 ls _) ⟨hx, hb, hml, hown, hts⟩ (m_X4_init l G cA n3 H.size 40 (by decide)) (cwI9 1 hts wi_82 wi_81 wi_56 wi_80 rfl (by decide +kernel) rfl rfl ⟨Nat.le_of_ble_eq_true rfl, Nat.le_of_ble_eq_true rfl⟩) ⟨cI.blind, preI hK hP⟩ rfl rfl hl.1 rfl (lv_room (Nat.le_of_ble_eq_true rfl)) dX6_init_32 ⟨Nat.le_of_ble_eq_true rfl, Nat.le_of_ble_eq_true rfl⟩) hP hD hS hA (fun b3 H9 locs9 hw hP9 hD9 hS9 => ?_)
  clear hP hD hS
  have hw : b3 0 = n3 := hw
  subst hw
  generalize H9 = H at hP9 hS9 ⊢
  generalize locs9 = locs at hS9 ⊢
  have hS := hS9
  have hP : va_P G vwCl ((h0, .inr (4, [.ref qa, .null, .null, .null, .null, .null])) :: (qa, .inl (cA 3, 8, .inr (.inr (.inr (.inr (va_up (va_up (fun _ => none) (nI 0).toNatClampNeg (some (b1 0))) (nI 1).toNatClampNeg (some (b2 0)))))))) :: (t2 ++ wSum cA b3 40 zSum0)) H := hP9
  have hD : va_D A ((h0, .inr (4, [.ref qa, .null, .null, .null, .null, .null])) :: (qa, .inl (cA 3, 8, .inr (.inr (.inr (.inr (va_up (va_up (fun _ => none) (nI 0).toNatClampNeg (some (b1 0))) (nI 1).toNatClampNeg (some (b2 0)))))))) :: (t2 ++ wSum cA b3 40 zSum0)) := hD9
  clear hP9 hD9 hS9
  refine W.widen (k := 13) (n := 386) (by omega) (by omega) ?_
  refine va_astq (r := (RX4, TX4, 6)) hx hb hK.1 hP hD hS 1 3 (2 + t2.length) 2 rfl rfl (tail_at _ _ _ _ _ _ _) rfl (vp_in_nI (by decide) (by decide)) dX6_init_35 (fun H locs hP hD hS => ?_)
  have hP : va_P G vwCl ((h0, .inr (4, [.ref qa, .null, .null, .null, .null, .null])) :: (qa, .inl (cA 3, 8, .inr (.inr (.inr (.inr (va_up (va_up (va_up (fun _ => none) (nI 0).toNatClampNeg (some (b1 0))) (nI 1).toNatClampNeg (some (b2 0))) (nI 2).toNatClampNeg (some (b3 0)))))))) :: (t2 ++ wSum cA b3 40 zSum0)) H := hP
  have hD : va_D A ((h0, .inr (4, [.ref qa, .null, .null, .null, .null, .null])) :: (qa, .inl (cA 3, 8, .inr (.inr (.inr (.inr (va_up (va_up (va_up (fun _ => none) (nI 0).toNatClampNeg (some (b1 0))) (nI 1).toNatClampNeg (some (b2 0))) (nI 2).toNatClampNeg (some (b3 0)))))))) :: (t2 ++ wSum cA b3 40 zSum0)) := hD
  obtain ⟨t3, ht3⟩ : ∃ t : va_W, t = (t2 ++ wSum cA b3 40 zSum0) := ⟨_, rfl⟩
  rw [← ht3] at hP hD
  refine lv_iinc (v := nI 3) (lv' := [(1, .int (nI 3)), (0, .ref h0)]) hx hb dX6_init_36 hl (k := 0) rfl (by decide) (by decide) rfl (fun ls hl => ?_)
  refine lv_goto (tgt := 15) hx hb dX6_init_39 (by decide) ?_
  refine lv_iload_n hx hb dX6_init_15 rfl (lv_at hl 0 rfl) ?_
  refine lv_bipush (v := nI 8) hx hb dX6_init_16 (by decide) ?_
  refine lv_icmp_ge (tgt := 42) hx hb dX6_init_18 (by decide) (fun c1 => absurd c1 (by decide)) (fun c1 => ?_)
  refine lv_aload_n hx hb dX6_init_21 rfl (lv_at hl 1 rfl) ?_
  refine va_get (D := G) (ci := 4) (v := .ref qa) (C := RX6) (T := TX6) (N := 6) hx hb hts fin_X6 hown hK.1 hP 0 rfl rfl 0 (by decide) (hts _ wi_171) (fun _ h9 => h9) rfl dX6_init_22 ?_
  refine lv_iload_n hx hb dX6_init_25 rfl (lv_at hl 0 rfl) ?_
  refine va_new (ci := 2) (fs := [.int 0, .null, .null, .null, .int 0, .int 0]) (C := RX4) (T := TX4) (N := 6) hx hb hts fin_X4 tyX4 tyX4_ok hown (hts _ wi_77) (hts _ wi_79) (hts _ wi_56) hK.1 hP hD hS hA rfl (fun j hj => by match j, hj with | 0, _ => rfl | 1, _ => rfl | 2, _ => rfl | 3, _ => rfl | 4, _ => rfl | 5, _ => rfl | _ + 6, h => exact absurd h (by omega)) (by decide) (by decide) dX6_init_26 (fun n4 H hP hD hS => ?_)
  refine W.widen (k := 14) (n := 392) (by omega) (by omega) ?_
  refine lv_dup hx hb dX6_init_29 rfl ?_
  refine lv_bipush (v := nI 40) hx hb dX6_init_30 (by decide) ?_
  refine cCtor (X := ((h0, .inr (4, [.ref qa, .null, .null, .null, .null, .null])) :: (qa, .inl (cA 3, 8, .inr (.inr (.inr (.inr (va_up (va_up (va_up (fun _ => none) (nI 0).toNatClampNeg (some (b1 0))) (nI 1).toNatClampNeg (some (b2 0))) (nI 2).toNatClampNeg (some (b3 0)))))))) :: t3)) (w0 := (n4, .inr (2, [.int 0, .null, .null, .null, .int 0, .int 0]))) (b := fun q : Nat → Nat => q 0) (va_runI (As := [.int (nI 40)]) (rest := [.ref n4, .int (nI 3), .ref qa]) (g := F0 m 32 ls _) ⟨hx, hb, hml, hown, hts⟩ (m_X4_init l G cA n4 H.size 40 (by decide)) (cwI9 1 hts wi_82 wi_81 wi_56 wi_80 rfl (by decide +kernel) rfl rfl ⟨Nat.le_of_ble_eq_true rfl, Nat.le_of_ble_eq_true rfl⟩) ⟨cI.blind, preI hK hP⟩ rfl rfl hl.1 rfl (lv_room (Nat.le_of_ble_eq_true rfl)) dX6_init_32 ⟨Nat.le_of_ble_eq_true rfl, Nat.le_of_ble_eq_true rfl⟩) hP hD hS hA (fun b4 H9 locs9 hw hP9 hD9 hS9 => ?_)
  clear hP hD hS
  have hw : b4 0 = n4 := hw
  subst hw
  generalize H9 = H at hP9 hS9 ⊢
  generalize locs9 = locs at hS9 ⊢
  have hS := hS9
  have hP : va_P G vwCl ((h0, .inr (4, [.ref qa, .null, .null, .null, .null, .null])) :: (qa, .inl (cA 3, 8, .inr (.inr (.inr (.inr (va_up (va_up (va_up (fun _ => none) (nI 0).toNatClampNeg (some (b1 0))) (nI 1).toNatClampNeg (some (b2 0))) (nI 2).toNatClampNeg (some (b3 0)))))))) :: (t3 ++ wSum cA b4 40 zSum0)) H := hP9
  have hD : va_D A ((h0, .inr (4, [.ref qa, .null, .null, .null, .null, .null])) :: (qa, .inl (cA 3, 8, .inr (.inr (.inr (.inr (va_up (va_up (va_up (fun _ => none) (nI 0).toNatClampNeg (some (b1 0))) (nI 1).toNatClampNeg (some (b2 0))) (nI 2).toNatClampNeg (some (b3 0)))))))) :: (t3 ++ wSum cA b4 40 zSum0)) := hD9
  clear hP9 hD9 hS9
  refine W.widen (k := 17) (n := 512) (by omega) (by omega) ?_
  refine va_astq (r := (RX4, TX4, 6)) hx hb hK.1 hP hD hS 1 3 (2 + t3.length) 2 rfl rfl (tail_at _ _ _ _ _ _ _) rfl (vp_in_nI (by decide) (by decide)) dX6_init_35 (fun H locs hP hD hS => ?_)
  have hP : va_P G vwCl ((h0, .inr (4, [.ref qa, .null, .null, .null, .null, .null])) :: (qa, .inl (cA 3, 8, .inr (.inr (.inr (.inr (va_up (va_up (va_up (va_up (fun _ => none) (nI 0).toNatClampNeg (some (b1 0))) (nI 1).toNatClampNeg (some (b2 0))) (nI 2).toNatClampNeg (some (b3 0))) (nI 3).toNatClampNeg (some (b4 0)))))))) :: (t3 ++ wSum cA b4 40 zSum0)) H := hP
  have hD : va_D A ((h0, .inr (4, [.ref qa, .null, .null, .null, .null, .null])) :: (qa, .inl (cA 3, 8, .inr (.inr (.inr (.inr (va_up (va_up (va_up (va_up (fun _ => none) (nI 0).toNatClampNeg (some (b1 0))) (nI 1).toNatClampNeg (some (b2 0))) (nI 2).toNatClampNeg (some (b3 0))) (nI 3).toNatClampNeg (some (b4 0)))))))) :: (t3 ++ wSum cA b4 40 zSum0)) := hD
  obtain ⟨t4, ht4⟩ : ∃ t : va_W, t = (t3 ++ wSum cA b4 40 zSum0) := ⟨_, rfl⟩
  rw [← ht4] at hP hD
  refine lv_iinc (v := nI 4) (lv' := [(1, .int (nI 4)), (0, .ref h0)]) hx hb dX6_init_36 hl (k := 0) rfl (by decide) (by decide) rfl (fun ls hl => ?_)
  refine lv_goto (tgt := 15) hx hb dX6_init_39 (by decide) ?_
  refine lv_iload_n hx hb dX6_init_15 rfl (lv_at hl 0 rfl) ?_
  refine lv_bipush (v := nI 8) hx hb dX6_init_16 (by decide) ?_
  refine lv_icmp_ge (tgt := 42) hx hb dX6_init_18 (by decide) (fun c1 => absurd c1 (by decide)) (fun c1 => ?_)
  refine lv_aload_n hx hb dX6_init_21 rfl (lv_at hl 1 rfl) ?_
  refine va_get (D := G) (ci := 4) (v := .ref qa) (C := RX6) (T := TX6) (N := 6) hx hb hts fin_X6 hown hK.1 hP 0 rfl rfl 0 (by decide) (hts _ wi_171) (fun _ h9 => h9) rfl dX6_init_22 ?_
  refine lv_iload_n hx hb dX6_init_25 rfl (lv_at hl 0 rfl) ?_
  refine va_new (ci := 2) (fs := [.int 0, .null, .null, .null, .int 0, .int 0]) (C := RX4) (T := TX4) (N := 6) hx hb hts fin_X4 tyX4 tyX4_ok hown (hts _ wi_77) (hts _ wi_79) (hts _ wi_56) hK.1 hP hD hS hA rfl (fun j hj => by match j, hj with | 0, _ => rfl | 1, _ => rfl | 2, _ => rfl | 3, _ => rfl | 4, _ => rfl | 5, _ => rfl | _ + 6, h => exact absurd h (by omega)) (by decide) (by decide) dX6_init_26 (fun n5 H hP hD hS => ?_)
  refine W.widen (k := 18) (n := 518) (by omega) (by omega) ?_
  refine lv_dup hx hb dX6_init_29 rfl ?_
  refine lv_bipush (v := nI 40) hx hb dX6_init_30 (by decide) ?_
  refine cCtor (X := ((h0, .inr (4, [.ref qa, .null, .null, .null, .null, .null])) :: (qa, .inl (cA 3, 8, .inr (.inr (.inr (.inr (va_up (va_up (va_up (va_up (fun _ => none) (nI 0).toNatClampNeg (some (b1 0))) (nI 1).toNatClampNeg (some (b2 0))) (nI 2).toNatClampNeg (some (b3 0))) (nI 3).toNatClampNeg (some (b4 0)))))))) :: t4)) (w0 := (n5, .inr (2, [.int 0, .null, .null, .null, .int 0, .int 0]))) (b := fun q : Nat → Nat => q 0) (va_runI (As := [.int (nI 40)]) (rest := [.ref n5, .int (nI 4), .ref qa]) (g := F0 m 32 ls _) ⟨hx, hb, hml, hown, hts⟩ (m_X4_init l G cA n5 H.size 40 (by decide)) (cwI9 1 hts wi_82 wi_81 wi_56 wi_80 rfl (by decide +kernel) rfl rfl ⟨Nat.le_of_ble_eq_true rfl, Nat.le_of_ble_eq_true rfl⟩) ⟨cI.blind, preI hK hP⟩ rfl rfl hl.1 rfl (lv_room (Nat.le_of_ble_eq_true rfl)) dX6_init_32 ⟨Nat.le_of_ble_eq_true rfl, Nat.le_of_ble_eq_true rfl⟩) hP hD hS hA (fun b5 H9 locs9 hw hP9 hD9 hS9 => ?_)
  clear hP hD hS
  have hw : b5 0 = n5 := hw
  subst hw
  generalize H9 = H at hP9 hS9 ⊢
  generalize locs9 = locs at hS9 ⊢
  have hS := hS9
  have hP : va_P G vwCl ((h0, .inr (4, [.ref qa, .null, .null, .null, .null, .null])) :: (qa, .inl (cA 3, 8, .inr (.inr (.inr (.inr (va_up (va_up (va_up (va_up (fun _ => none) (nI 0).toNatClampNeg (some (b1 0))) (nI 1).toNatClampNeg (some (b2 0))) (nI 2).toNatClampNeg (some (b3 0))) (nI 3).toNatClampNeg (some (b4 0)))))))) :: (t4 ++ wSum cA b5 40 zSum0)) H := hP9
  have hD : va_D A ((h0, .inr (4, [.ref qa, .null, .null, .null, .null, .null])) :: (qa, .inl (cA 3, 8, .inr (.inr (.inr (.inr (va_up (va_up (va_up (va_up (fun _ => none) (nI 0).toNatClampNeg (some (b1 0))) (nI 1).toNatClampNeg (some (b2 0))) (nI 2).toNatClampNeg (some (b3 0))) (nI 3).toNatClampNeg (some (b4 0)))))))) :: (t4 ++ wSum cA b5 40 zSum0)) := hD9
  clear hP9 hD9 hS9
  refine W.widen (k := 21) (n := 638) (by omega) (by omega) ?_
  refine va_astq (r := (RX4, TX4, 6)) hx hb hK.1 hP hD hS 1 3 (2 + t4.length) 2 rfl rfl (tail_at _ _ _ _ _ _ _) rfl (vp_in_nI (by decide) (by decide)) dX6_init_35 (fun H locs hP hD hS => ?_)
  have hP : va_P G vwCl ((h0, .inr (4, [.ref qa, .null, .null, .null, .null, .null])) :: (qa, .inl (cA 3, 8, .inr (.inr (.inr (.inr (va_up (va_up (va_up (va_up (va_up (fun _ => none) (nI 0).toNatClampNeg (some (b1 0))) (nI 1).toNatClampNeg (some (b2 0))) (nI 2).toNatClampNeg (some (b3 0))) (nI 3).toNatClampNeg (some (b4 0))) (nI 4).toNatClampNeg (some (b5 0)))))))) :: (t4 ++ wSum cA b5 40 zSum0)) H := hP
  have hD : va_D A ((h0, .inr (4, [.ref qa, .null, .null, .null, .null, .null])) :: (qa, .inl (cA 3, 8, .inr (.inr (.inr (.inr (va_up (va_up (va_up (va_up (va_up (fun _ => none) (nI 0).toNatClampNeg (some (b1 0))) (nI 1).toNatClampNeg (some (b2 0))) (nI 2).toNatClampNeg (some (b3 0))) (nI 3).toNatClampNeg (some (b4 0))) (nI 4).toNatClampNeg (some (b5 0)))))))) :: (t4 ++ wSum cA b5 40 zSum0)) := hD
  obtain ⟨t5, ht5⟩ : ∃ t : va_W, t = (t4 ++ wSum cA b5 40 zSum0) := ⟨_, rfl⟩
  rw [← ht5] at hP hD
  refine lv_iinc (v := nI 5) (lv' := [(1, .int (nI 5)), (0, .ref h0)]) hx hb dX6_init_36 hl (k := 0) rfl (by decide) (by decide) rfl (fun ls hl => ?_)
  refine lv_goto (tgt := 15) hx hb dX6_init_39 (by decide) ?_
  refine lv_iload_n hx hb dX6_init_15 rfl (lv_at hl 0 rfl) ?_
  refine lv_bipush (v := nI 8) hx hb dX6_init_16 (by decide) ?_
  refine lv_icmp_ge (tgt := 42) hx hb dX6_init_18 (by decide) (fun c1 => absurd c1 (by decide)) (fun c1 => ?_)
  refine lv_aload_n hx hb dX6_init_21 rfl (lv_at hl 1 rfl) ?_
  refine va_get (D := G) (ci := 4) (v := .ref qa) (C := RX6) (T := TX6) (N := 6) hx hb hts fin_X6 hown hK.1 hP 0 rfl rfl 0 (by decide) (hts _ wi_171) (fun _ h9 => h9) rfl dX6_init_22 ?_
  refine lv_iload_n hx hb dX6_init_25 rfl (lv_at hl 0 rfl) ?_
  refine va_new (ci := 2) (fs := [.int 0, .null, .null, .null, .int 0, .int 0]) (C := RX4) (T := TX4) (N := 6) hx hb hts fin_X4 tyX4 tyX4_ok hown (hts _ wi_77) (hts _ wi_79) (hts _ wi_56) hK.1 hP hD hS hA rfl (fun j hj => by match j, hj with | 0, _ => rfl | 1, _ => rfl | 2, _ => rfl | 3, _ => rfl | 4, _ => rfl | 5, _ => rfl | _ + 6, h => exact absurd h (by omega)) (by decide) (by decide) dX6_init_26 (fun n6 H hP hD hS => ?_)
  refine W.widen (k := 22) (n := 644) (by omega) (by omega) ?_
  refine lv_dup hx hb dX6_init_29 rfl ?_
  refine lv_bipush (v := nI 40) hx hb dX6_init_30 (by decide) ?_
  refine cCtor (X := ((h0, .inr (4, [.ref qa, .null, .null, .null, .null, .null])) :: (qa, .inl (cA 3, 8, .inr (.inr (.inr (.inr (va_up (va_up (va_up (va_up (va_up (fun _ => none) (nI 0).toNatClampNeg (some (b1 0))) (nI 1).toNatClampNeg (some (b2 0))) (nI 2).toNatClampNeg (some (b3 0))) (nI 3).toNatClampNeg (some (b4 0))) (nI 4).toNatClampNeg (some (b5 0)))))))) :: t5)) (w0 := (n6, .inr (2, [.int 0, .null, .null, .null, .int 0, .int 0]))) (b := fun q : Nat → Nat => q 0) (va_runI (As := [.int (nI 40)]) (rest := [.ref n6, .int (nI 5), .ref qa]) (g := F0 m 32 ls _) ⟨hx, hb, hml, hown, hts⟩ (m_X4_init l G cA n6 H.size 40 (by decide)) (cwI9 1 hts wi_82 wi_81 wi_56 wi_80 rfl (by decide +kernel) rfl rfl ⟨Nat.le_of_ble_eq_true rfl, Nat.le_of_ble_eq_true rfl⟩) ⟨cI.blind, preI hK hP⟩ rfl rfl hl.1 rfl (lv_room (Nat.le_of_ble_eq_true rfl)) dX6_init_32 ⟨Nat.le_of_ble_eq_true rfl, Nat.le_of_ble_eq_true rfl⟩) hP hD hS hA (fun b6 H9 locs9 hw hP9 hD9 hS9 => ?_)
  clear hP hD hS
  have hw : b6 0 = n6 := hw
  subst hw
  generalize H9 = H at hP9 hS9 ⊢
  generalize locs9 = locs at hS9 ⊢
  have hS := hS9
  have hP : va_P G vwCl ((h0, .inr (4, [.ref qa, .null, .null, .null, .null, .null])) :: (qa, .inl (cA 3, 8, .inr (.inr (.inr (.inr (va_up (va_up (va_up (va_up (va_up (fun _ => none) (nI 0).toNatClampNeg (some (b1 0))) (nI 1).toNatClampNeg (some (b2 0))) (nI 2).toNatClampNeg (some (b3 0))) (nI 3).toNatClampNeg (some (b4 0))) (nI 4).toNatClampNeg (some (b5 0)))))))) :: (t5 ++ wSum cA b6 40 zSum0)) H := hP9
  have hD : va_D A ((h0, .inr (4, [.ref qa, .null, .null, .null, .null, .null])) :: (qa, .inl (cA 3, 8, .inr (.inr (.inr (.inr (va_up (va_up (va_up (va_up (va_up (fun _ => none) (nI 0).toNatClampNeg (some (b1 0))) (nI 1).toNatClampNeg (some (b2 0))) (nI 2).toNatClampNeg (some (b3 0))) (nI 3).toNatClampNeg (some (b4 0))) (nI 4).toNatClampNeg (some (b5 0)))))))) :: (t5 ++ wSum cA b6 40 zSum0)) := hD9
  clear hP9 hD9 hS9
  refine W.widen (k := 25) (n := 764) (by omega) (by omega) ?_
  refine va_astq (r := (RX4, TX4, 6)) hx hb hK.1 hP hD hS 1 3 (2 + t5.length) 2 rfl rfl (tail_at _ _ _ _ _ _ _) rfl (vp_in_nI (by decide) (by decide)) dX6_init_35 (fun H locs hP hD hS => ?_)
  have hP : va_P G vwCl ((h0, .inr (4, [.ref qa, .null, .null, .null, .null, .null])) :: (qa, .inl (cA 3, 8, .inr (.inr (.inr (.inr (va_up (va_up (va_up (va_up (va_up (va_up (fun _ => none) (nI 0).toNatClampNeg (some (b1 0))) (nI 1).toNatClampNeg (some (b2 0))) (nI 2).toNatClampNeg (some (b3 0))) (nI 3).toNatClampNeg (some (b4 0))) (nI 4).toNatClampNeg (some (b5 0))) (nI 5).toNatClampNeg (some (b6 0)))))))) :: (t5 ++ wSum cA b6 40 zSum0)) H := hP
  have hD : va_D A ((h0, .inr (4, [.ref qa, .null, .null, .null, .null, .null])) :: (qa, .inl (cA 3, 8, .inr (.inr (.inr (.inr (va_up (va_up (va_up (va_up (va_up (va_up (fun _ => none) (nI 0).toNatClampNeg (some (b1 0))) (nI 1).toNatClampNeg (some (b2 0))) (nI 2).toNatClampNeg (some (b3 0))) (nI 3).toNatClampNeg (some (b4 0))) (nI 4).toNatClampNeg (some (b5 0))) (nI 5).toNatClampNeg (some (b6 0)))))))) :: (t5 ++ wSum cA b6 40 zSum0)) := hD
  obtain ⟨t6, ht6⟩ : ∃ t : va_W, t = (t5 ++ wSum cA b6 40 zSum0) := ⟨_, rfl⟩
  rw [← ht6] at hP hD
  refine lv_iinc (v := nI 6) (lv' := [(1, .int (nI 6)), (0, .ref h0)]) hx hb dX6_init_36 hl (k := 0) rfl (by decide) (by decide) rfl (fun ls hl => ?_)
  refine lv_goto (tgt := 15) hx hb dX6_init_39 (by decide) ?_
  refine lv_iload_n hx hb dX6_init_15 rfl (lv_at hl 0 rfl) ?_
  refine lv_bipush (v := nI 8) hx hb dX6_init_16 (by decide) ?_
  refine lv_icmp_ge (tgt := 42) hx hb dX6_init_18 (by decide) (fun c1 => absurd c1 (by decide)) (fun c1 => ?_)
  refine lv_aload_n hx hb dX6_init_21 rfl (lv_at hl 1 rfl) ?_
  refine va_get (D := G) (ci := 4) (v := .ref qa) (C := RX6) (T := TX6) (N := 6) hx hb hts fin_X6 hown hK.1 hP 0 rfl rfl 0 (by decide) (hts _ wi_171) (fun _ h9 => h9) rfl dX6_init_22 ?_
  refine lv_iload_n hx hb dX6_init_25 rfl (lv_at hl 0 rfl) ?_
  refine va_new (ci := 2) (fs := [.int 0, .null, .null, .null, .int 0, .int 0]) (C := RX4) (T := TX4) (N := 6) hx hb hts fin_X4 tyX4 tyX4_ok hown (hts _ wi_77) (hts _ wi_79) (hts _ wi_56) hK.1 hP hD hS hA rfl (fun j hj => by match j, hj with | 0, _ => rfl | 1, _ => rfl | 2, _ => rfl | 3, _ => rfl | 4, _ => rfl | 5, _ => rfl | _ + 6, h => exact absurd h (by omega)) (by decide) (by decide) dX6_init_26 (fun n7 H hP hD hS => ?_)
  refine W.widen (k := 26) (n := 770) (by omega) (by omega) ?_
  refine lv_dup hx hb dX6_init_29 rfl ?_
  refine lv_bipush (v := nI 40) hx hb dX6_init_30 (by decide) ?_
  refine cCtor (X := ((h0, .inr (4, [.ref qa, .null, .null, .null, .null, .null])) :: (qa, .inl (cA 3, 8, .inr (.inr (.inr (.inr (va_up (va_up (va_up (va_up (va_up (va_up (fun _ => none) (nI 0).toNatClampNeg (some (b1 0))) (nI 1).toNatClampNeg (some (b2 0))) (nI 2).toNatClampNeg (some (b3 0))) (nI 3).toNatClampNeg (some (b4 0))) (nI 4).toNatClampNeg (some (b5 0))) (nI 5).toNatClampNeg (some (b6 0)))))))) :: t6)) (w0 := (n7, .inr (2, [.int 0, .null, .null, .null, .int 0, .int 0]))) (b := fun q : Nat → Nat => q 0) (va_runI (As := [.int (nI 40)]) (rest := [.ref n7, .int (nI 6), .ref qa]) (g := F0 m 32 ls _) ⟨hx, hb, hml, hown, hts⟩ (m_X4_init l G cA n7 H.size 40 (by decide)) (cwI9 1 hts wi_82 wi_81 wi_56 wi_80 rfl (by decide +kernel) rfl rfl ⟨Nat.le_of_ble_eq_true rfl, Nat.le_of_ble_eq_true rfl⟩) ⟨cI.blind, preI hK hP⟩ rfl rfl hl.1 rfl (lv_room (Nat.le_of_ble_eq_true rfl)) dX6_init_32 ⟨Nat.le_of_ble_eq_true rfl, Nat.le_of_ble_eq_true rfl⟩) hP hD hS hA (fun b7 H9 locs9 hw hP9 hD9 hS9 => ?_)
  clear hP hD hS
  have hw : b7 0 = n7 := hw
  subst hw
  generalize H9 = H at hP9 hS9 ⊢
  generalize locs9 = locs at hS9 ⊢
  have hS := hS9
  have hP : va_P G vwCl ((h0, .inr (4, [.ref qa, .null, .null, .null, .null, .null])) :: (qa, .inl (cA 3, 8, .inr (.inr (.inr (.inr (va_up (va_up (va_up (va_up (va_up (va_up (fun _ => none) (nI 0).toNatClampNeg (some (b1 0))) (nI 1).toNatClampNeg (some (b2 0))) (nI 2).toNatClampNeg (some (b3 0))) (nI 3).toNatClampNeg (some (b4 0))) (nI 4).toNatClampNeg (some (b5 0))) (nI 5).toNatClampNeg (some (b6 0)))))))) :: (t6 ++ wSum cA b7 40 zSum0)) H := hP9
  have hD : va_D A ((h0, .inr (4, [.ref qa, .null, .null, .null, .null, .null])) :: (qa, .inl (cA 3, 8, .inr (.inr (.inr (.inr (va_up (va_up (va_up (va_up (va_up (va_up (fun _ => none) (nI 0).toNatClampNeg (some (b1 0))) (nI 1).toNatClampNeg (some (b2 0))) (nI 2).toNatClampNeg (some (b3 0))) (nI 3).toNatClampNeg (some (b4 0))) (nI 4).toNatClampNeg (some (b5 0))) (nI 5).toNatClampNeg (some (b6 0)))))))) :: (t6 ++ wSum cA b7 40 zSum0)) := hD9
  clear hP9 hD9 hS9
  refine W.widen (k := 29) (n := 890) (by omega) (by omega) ?_
  refine va_astq (r := (RX4, TX4, 6)) hx hb hK.1 hP hD hS 1 3 (2 + t6.length) 2 rfl rfl (tail_at _ _ _ _ _ _ _) rfl (vp_in_nI (by decide) (by decide)) dX6_init_35 (fun H locs hP hD hS => ?_)
  have hP : va_P G vwCl ((h0, .inr (4, [.ref qa, .null, .null, .null, .null, .null])) :: (qa, .inl (cA 3, 8, .inr (.inr (.inr (.inr (va_up (va_up (va_up (va_up (va_up (va_up (va_up (fun _ => none) (nI 0).toNatClampNeg (some (b1 0))) (nI 1).toNatClampNeg (some (b2 0))) (nI 2).toNatClampNeg (some (b3 0))) (nI 3).toNatClampNeg (some (b4 0))) (nI 4).toNatClampNeg (some (b5 0))) (nI 5).toNatClampNeg (some (b6 0))) (nI 6).toNatClampNeg (some (b7 0)))))))) :: (t6 ++ wSum cA b7 40 zSum0)) H := hP
  have hD : va_D A ((h0, .inr (4, [.ref qa, .null, .null, .null, .null, .null])) :: (qa, .inl (cA 3, 8, .inr (.inr (.inr (.inr (va_up (va_up (va_up (va_up (va_up (va_up (va_up (fun _ => none) (nI 0).toNatClampNeg (some (b1 0))) (nI 1).toNatClampNeg (some (b2 0))) (nI 2).toNatClampNeg (some (b3 0))) (nI 3).toNatClampNeg (some (b4 0))) (nI 4).toNatClampNeg (some (b5 0))) (nI 5).toNatClampNeg (some (b6 0))) (nI 6).toNatClampNeg (some (b7 0)))))))) :: (t6 ++ wSum cA b7 40 zSum0)) := hD
  obtain ⟨t7, ht7⟩ : ∃ t : va_W, t = (t6 ++ wSum cA b7 40 zSum0) := ⟨_, rfl⟩
  rw [← ht7] at hP hD
  refine lv_iinc (v := nI 7) (lv' := [(1, .int (nI 7)), (0, .ref h0)]) hx hb dX6_init_36 hl (k := 0) rfl (by decide) (by decide) rfl (fun ls hl => ?_)
  refine lv_goto (tgt := 15) hx hb dX6_init_39 (by decide) ?_
  refine lv_iload_n hx hb dX6_init_15 rfl (lv_at hl 0 rfl) ?_
  refine lv_bipush (v := nI 8) hx hb dX6_init_16 (by decide) ?_
  refine lv_icmp_ge (tgt := 42) hx hb dX6_init_18 (by decide) (fun c1 => absurd c1 (by decide)) (fun c1 => ?_)
  refine lv_aload_n hx hb dX6_init_21 rfl (lv_at hl 1 rfl) ?_
  refine va_get (D := G) (ci := 4) (v := .ref qa) (C := RX6) (T := TX6) (N := 6) hx hb hts fin_X6 hown hK.1 hP 0 rfl rfl 0 (by decide) (hts _ wi_171) (fun _ h9 => h9) rfl dX6_init_22 ?_
  refine lv_iload_n hx hb dX6_init_25 rfl (lv_at hl 0 rfl) ?_
  refine va_new (ci := 2) (fs := [.int 0, .null, .null, .null, .int 0, .int 0]) (C := RX4) (T := TX4) (N := 6) hx hb hts fin_X4 tyX4 tyX4_ok hown (hts _ wi_77) (hts _ wi_79) (hts _ wi_56) hK.1 hP hD hS hA rfl (fun j hj => by match j, hj with | 0, _ => rfl | 1, _ => rfl | 2, _ => rfl | 3, _ => rfl | 4, _ => rfl | 5, _ => rfl | _ + 6, h => exact absurd h (by omega)) (by decide) (by decide) dX6_init_26 (fun n8 H hP hD hS => ?_)
  refine W.widen (k := 30) (n := 896) (by omega) (by omega) ?_
  refine lv_dup hx hb dX6_init_29 rfl ?_
  refine lv_bipush (v := nI 40) hx hb dX6_init_30 (by decide) ?_
  refine cCtor (X := ((h0, .inr (4, [.ref qa, .null, .null, .null, .null, .null])) :: (qa, .inl (cA 3, 8, .inr (.inr (.inr (.inr (va_up (va_up (va_up (va_up (va_up (va_up (va_up (fun _ => none) (nI 0).toNatClampNeg (some (b1 0))) (nI 1).toNatClampNeg (some (b2 0))) (nI 2).toNatClampNeg (some (b3 0))) (nI 3).toNatClampNeg (some (b4 0))) (nI 4).toNatClampNeg (some (b5 0))) (nI 5).toNatClampNeg (some (b6 0))) (nI 6).toNatClampNeg (some (b7 0)))))))) :: t7)) (w0 := (n8, .inr (2, [.int 0, .null, .null, .null, .int 0, .int 0]))) (b := fun q : Nat → Nat => q 0) (va_runI (As := [.int (nI 40)]) (rest := [.ref n8, .int (nI 7), .ref qa]) (g := F0 m 32 ls _) ⟨hx, hb, hml, hown, hts⟩ (m_X4_init l G cA n8 H.size 40 (by decide)) (cwI9 1 hts wi_82 wi_81 wi_56 wi_80 rfl (by decide +kernel) rfl rfl ⟨Nat.le_of_ble_eq_true rfl, Nat.le_of_ble_eq_true rfl⟩) ⟨cI.blind, preI hK hP⟩ rfl rfl hl.1 rfl (lv_room (Nat.le_of_ble_eq_true rfl)) dX6_init_32 ⟨Nat.le_of_ble_eq_true rfl, Nat.le_of_ble_eq_true rfl⟩) hP hD hS hA (fun b8 H9 locs9 hw hP9 hD9 hS9 => ?_)
  clear hP hD hS
  have hw : b8 0 = n8 := hw
  subst hw
  generalize H9 = H at hP9 hS9 ⊢
  generalize locs9 = locs at hS9 ⊢
  have hS := hS9
  have hP : va_P G vwCl ((h0, .inr (4, [.ref qa, .null, .null, .null, .null, .null])) :: (qa, .inl (cA 3, 8, .inr (.inr (.inr (.inr (va_up (va_up (va_up (va_up (va_up (va_up (va_up (fun _ => none) (nI 0).toNatClampNeg (some (b1 0))) (nI 1).toNatClampNeg (some (b2 0))) (nI 2).toNatClampNeg (some (b3 0))) (nI 3).toNatClampNeg (some (b4 0))) (nI 4).toNatClampNeg (some (b5 0))) (nI 5).toNatClampNeg (some (b6 0))) (nI 6).toNatClampNeg (some (b7 0)))))))) :: (t7 ++ wSum cA b8 40 zSum0)) H := hP9
  have hD : va_D A ((h0, .inr (4, [.ref qa, .null, .null, .null, .null, .null])) :: (qa, .inl (cA 3, 8, .inr (.inr (.inr (.inr (va_up (va_up (va_up (va_up (va_up (va_up (va_up (fun _ => none) (nI 0).toNatClampNeg (some (b1 0))) (nI 1).toNatClampNeg (some (b2 0))) (nI 2).toNatClampNeg (some (b3 0))) (nI 3).toNatClampNeg (some (b4 0))) (nI 4).toNatClampNeg (some (b5 0))) (nI 5).toNatClampNeg (some (b6 0))) (nI 6).toNatClampNeg (some (b7 0)))))))) :: (t7 ++ wSum cA b8 40 zSum0)) := hD9
  clear hP9 hD9 hS9
  refine W.widen (k := 33) (n := 1016) (by omega) (by omega) ?_
  refine va_astq (r := (RX4, TX4, 6)) hx hb hK.1 hP hD hS 1 3 (2 + t7.length) 2 rfl rfl (tail_at _ _ _ _ _ _ _) rfl (vp_in_nI (by decide) (by decide)) dX6_init_35 (fun H locs hP hD hS => ?_)
  have hP : va_P G vwCl ((h0, .inr (4, [.ref qa, .null, .null, .null, .null, .null])) :: (qa, .inl (cA 3, 8, .inr (.inr (.inr (.inr (va_up (va_up (va_up (va_up (va_up (va_up (va_up (va_up (fun _ => none) (nI 0).toNatClampNeg (some (b1 0))) (nI 1).toNatClampNeg (some (b2 0))) (nI 2).toNatClampNeg (some (b3 0))) (nI 3).toNatClampNeg (some (b4 0))) (nI 4).toNatClampNeg (some (b5 0))) (nI 5).toNatClampNeg (some (b6 0))) (nI 6).toNatClampNeg (some (b7 0))) (nI 7).toNatClampNeg (some (b8 0)))))))) :: (t7 ++ wSum cA b8 40 zSum0)) H := hP
  have hD : va_D A ((h0, .inr (4, [.ref qa, .null, .null, .null, .null, .null])) :: (qa, .inl (cA 3, 8, .inr (.inr (.inr (.inr (va_up (va_up (va_up (va_up (va_up (va_up (va_up (va_up (fun _ => none) (nI 0).toNatClampNeg (some (b1 0))) (nI 1).toNatClampNeg (some (b2 0))) (nI 2).toNatClampNeg (some (b3 0))) (nI 3).toNatClampNeg (some (b4 0))) (nI 4).toNatClampNeg (some (b5 0))) (nI 5).toNatClampNeg (some (b6 0))) (nI 6).toNatClampNeg (some (b7 0))) (nI 7).toNatClampNeg (some (b8 0)))))))) :: (t7 ++ wSum cA b8 40 zSum0)) := hD
  obtain ⟨t8, ht8⟩ : ∃ t : va_W, t = (t7 ++ wSum cA b8 40 zSum0) := ⟨_, rfl⟩
  rw [← ht8] at hP hD
  refine lv_iinc (v := nI 8) (lv' := [(1, .int (nI 8)), (0, .ref h0)]) hx hb dX6_init_36 hl (k := 0) rfl (by decide) (by decide) rfl (fun ls hl => ?_)
  refine lv_goto (tgt := 15) hx hb dX6_init_39 (by decide) ?_
  refine lv_iload_n hx hb dX6_init_15 rfl (lv_at hl 0 rfl) ?_
  refine lv_bipush (v := nI 8) hx hb dX6_init_16 (by decide) ?_
  refine lv_icmp_ge (tgt := 42) hx hb dX6_init_18 (by decide) (fun c1 => ?_) (fun c1 => absurd (by decide) c1)
  refine lv_aload_n hx hb dX6_init_42 rfl (lv_at hl 1 rfl) ?_
  refine va_new (ci := 2) (fs := [.int 0, .null, .null, .null, .int 0, .int 0]) (C := RX4) (T := TX4) (N := 6) hx hb hts fin_X4 tyX4 tyX4_ok hown (hts _ wi_77) (hts _ wi_79) (hts _ wi_56) hK.1 hP hD hS hA rfl (fun j hj => by match j, hj with | 0, _ => rfl | 1, _ => rfl | 2, _ => rfl | 3, _ => rfl | 4, _ => rfl | 5, _ => rfl | _ + 6, h => exact absurd h (by omega)) (by decide) (by decide) dX6_init_43 (fun n9 H hP hD hS => ?_)
  refine W.widen (k := 34) (n := 1022) (by omega) (by omega) ?_
  refine lv_dup hx hb dX6_init_46 rfl ?_
  refine lv_sipush (v := nI 200) hx hb dX6_init_47 (by decide) ?_
  refine cCtor (X := ((h0, .inr (4, [.ref qa, .null, .null, .null, .null, .null])) :: (qa, .inl (cA 3, 8, .inr (.inr (.inr (.inr (va_up (va_up (va_up (va_up (va_up (va_up (va_up (va_up (fun _ => none) (nI 0).toNatClampNeg (some (b1 0))) (nI 1).toNatClampNeg (some (b2 0))) (nI 2).toNatClampNeg (some (b3 0))) (nI 3).toNatClampNeg (some (b4 0))) (nI 4).toNatClampNeg (some (b5 0))) (nI 5).toNatClampNeg (some (b6 0))) (nI 6).toNatClampNeg (some (b7 0))) (nI 7).toNatClampNeg (some (b8 0)))))))) :: t8)) (w0 := (n9, .inr (2, [.int 0, .null, .null, .null, .int 0, .int 0]))) (b := fun q : Nat → Nat => q 0) (va_runI (As := [.int (nI 200)]) (rest := [.ref n9, .ref h0]) (g := F0 m 50 ls _) ⟨hx, hb, hml, hown, hts⟩ (m_X4_init l G cA n9 H.size 200 (by decide)) (cwI9 1 hts wi_82 wi_81 wi_56 wi_80 rfl (by decide +kernel) rfl rfl ⟨Nat.le_of_ble_eq_true rfl, Nat.le_of_ble_eq_true rfl⟩) ⟨cI.blind, preI hK hP⟩ rfl rfl hl.1 rfl (lv_room (Nat.le_of_ble_eq_true rfl)) dX6_init_50 ⟨Nat.le_of_ble_eq_true rfl, Nat.le_of_ble_eq_true rfl⟩) hP hD hS hA (fun b9 H9 locs9 hw hP9 hD9 hS9 => ?_)
  clear hP hD hS
  have hw : b9 0 = n9 := hw
  subst hw
  generalize H9 = H at hP9 hS9 ⊢
  generalize locs9 = locs at hS9 ⊢
  have hS := hS9
  have hP : va_P G vwCl ((h0, .inr (4, [.ref qa, .null, .null, .null, .null, .null])) :: (qa, .inl (cA 3, 8, .inr (.inr (.inr (.inr (va_up (va_up (va_up (va_up (va_up (va_up (va_up (va_up (fun _ => none) (nI 0).toNatClampNeg (some (b1 0))) (nI 1).toNatClampNeg (some (b2 0))) (nI 2).toNatClampNeg (some (b3 0))) (nI 3).toNatClampNeg (some (b4 0))) (nI 4).toNatClampNeg (some (b5 0))) (nI 5).toNatClampNeg (some (b6 0))) (nI 6).toNatClampNeg (some (b7 0))) (nI 7).toNatClampNeg (some (b8 0)))))))) :: (t8 ++ wSum cA b9 200 zSum0)) H := hP9
  have hD : va_D A ((h0, .inr (4, [.ref qa, .null, .null, .null, .null, .null])) :: (qa, .inl (cA 3, 8, .inr (.inr (.inr (.inr (va_up (va_up (va_up (va_up (va_up (va_up (va_up (va_up (fun _ => none) (nI 0).toNatClampNeg (some (b1 0))) (nI 1).toNatClampNeg (some (b2 0))) (nI 2).toNatClampNeg (some (b3 0))) (nI 3).toNatClampNeg (some (b4 0))) (nI 4).toNatClampNeg (some (b5 0))) (nI 5).toNatClampNeg (some (b6 0))) (nI 6).toNatClampNeg (some (b7 0))) (nI 7).toNatClampNeg (some (b8 0)))))))) :: (t8 ++ wSum cA b9 200 zSum0)) := hD9
  clear hP9 hD9 hS9
  refine W.widen (k := 37) (n := 1622) (by omega) (by omega) ?_
  obtain ⟨t9, ht9⟩ : ∃ t : va_W, t = (t8 ++ wSum cA b9 200 zSum0) := ⟨_, rfl⟩
  rw [← ht9] at hP hD
  refine va_putF (D := G) (ci := 4) (v := .ref (b9 0)) (ty := .object "AntiDesk$Sum") (C := RX6) (T := TX6) (N := 6) hx hb hts fin_X6 tyX6 tyX6_ok nmX6 hown hK.1 hP hD hS 0 rfl rfl 1 (by decide) (hts _ wi_172) (fun _ h9 => h9) rfl hin rfl (by decide +kernel) rfl rfl (Nat.le_of_ble_eq_true rfl) dX6_init_53 (fun H locs hP hD hS => ?_)
  have hP : va_P G vwCl ((h0, .inr (4, [.ref qa, .ref (b9 0), .null, .null, .null, .null])) :: (qa, .inl (cA 3, 8, .inr (.inr (.inr (.inr (va_up (va_up (va_up (va_up (va_up (va_up (va_up (va_up (fun _ => none) (nI 0).toNatClampNeg (some (b1 0))) (nI 1).toNatClampNeg (some (b2 0))) (nI 2).toNatClampNeg (some (b3 0))) (nI 3).toNatClampNeg (some (b4 0))) (nI 4).toNatClampNeg (some (b5 0))) (nI 5).toNatClampNeg (some (b6 0))) (nI 6).toNatClampNeg (some (b7 0))) (nI 7).toNatClampNeg (some (b8 0)))))))) :: t9) H := hP
  have hD : va_D A ((h0, .inr (4, [.ref qa, .ref (b9 0), .null, .null, .null, .null])) :: (qa, .inl (cA 3, 8, .inr (.inr (.inr (.inr (va_up (va_up (va_up (va_up (va_up (va_up (va_up (va_up (fun _ => none) (nI 0).toNatClampNeg (some (b1 0))) (nI 1).toNatClampNeg (some (b2 0))) (nI 2).toNatClampNeg (some (b3 0))) (nI 3).toNatClampNeg (some (b4 0))) (nI 4).toNatClampNeg (some (b5 0))) (nI 5).toNatClampNeg (some (b6 0))) (nI 6).toNatClampNeg (some (b7 0))) (nI 7).toNatClampNeg (some (b8 0)))))))) :: t9) := hD
  refine lv_aload_n hx hb dX6_init_56 rfl (lv_at hl 1 rfl) ?_
  refine va_new (ci := 2) (fs := [.int 0, .null, .null, .null, .int 0, .int 0]) (C := RX4) (T := TX4) (N := 6) hx hb hts fin_X4 tyX4 tyX4_ok hown (hts _ wi_77) (hts _ wi_79) (hts _ wi_56) hK.1 hP hD hS hA rfl (fun j hj => by match j, hj with | 0, _ => rfl | 1, _ => rfl | 2, _ => rfl | 3, _ => rfl | 4, _ => rfl | 5, _ => rfl | _ + 6, h => exact absurd h (by omega)) (by decide) (by decide) dX6_init_57 (fun n10 H hP hD hS => ?_)
  refine W.widen (k := 38) (n := 1628) (by omega) (by omega) ?_
  refine lv_dup hx hb dX6_init_60 rfl ?_
  refine lv_bipush (v := nI 40) hx hb dX6_init_61 (by decide) ?_
  refine cCtor (X := ((h0, .inr (4, [.ref qa, .ref (b9 0), .null, .null, .null, .null])) :: (qa, .inl (cA 3, 8, .inr (.inr (.inr (.inr (va_up (va_up (va_up (va_up (va_up (va_up (va_up (va_up (fun _ => none) (nI 0).toNatClampNeg (some (b1 0))) (nI 1).toNatClampNeg (some (b2 0))) (nI 2).toNatClampNeg (some (b3 0))) (nI 3).toNatClampNeg (some (b4 0))) (nI 4).toNatClampNeg (some (b5 0))) (nI 5).toNatClampNeg (some (b6 0))) (nI 6).toNatClampNeg (some (b7 0))) (nI 7).toNatClampNeg (some (b8 0)))))))) :: t9)) (w0 := (n10, .inr (2, [.int 0, .null, .null, .null, .int 0, .int 0]))) (b := fun q : Nat → Nat => q 0) (va_runI (As := [.int (nI 40)]) (rest := [.ref n10, .ref h0]) (g := F0 m 63 ls _) ⟨hx, hb, hml, hown, hts⟩ (m_X4_init l G cA n10 H.size 40 (by decide)) (cwI9 1 hts wi_82 wi_81 wi_56 wi_80 rfl (by decide +kernel) rfl rfl ⟨Nat.le_of_ble_eq_true rfl, Nat.le_of_ble_eq_true rfl⟩) ⟨cI.blind, preI hK hP⟩ rfl rfl hl.1 rfl (lv_room (Nat.le_of_ble_eq_true rfl)) dX6_init_63 ⟨Nat.le_of_ble_eq_true rfl, Nat.le_of_ble_eq_true rfl⟩) hP hD hS hA (fun b10 H9 locs9 hw hP9 hD9 hS9 => ?_)
  clear hP hD hS
  have hw : b10 0 = n10 := hw
  subst hw
  generalize H9 = H at hP9 hS9 ⊢
  generalize locs9 = locs at hS9 ⊢
  have hS := hS9
  have hP : va_P G vwCl ((h0, .inr (4, [.ref qa, .ref (b9 0), .null, .null, .null, .null])) :: (qa, .inl (cA 3, 8, .inr (.inr (.inr (.inr (va_up (va_up (va_up (va_up (va_up (va_up (va_up (va_up (fun _ => none) (nI 0).toNatClampNeg (some (b1 0))) (nI 1).toNatClampNeg (some (b2 0))) (nI 2).toNatClampNeg (some (b3 0))) (nI 3).toNatClampNeg (some (b4 0))) (nI 4).toNatClampNeg (some (b5 0))) (nI 5).toNatClampNeg (some (b6 0))) (nI 6).toNatClampNeg (some (b7 0))) (nI 7).toNatClampNeg (some (b8 0)))))))) :: (t9 ++ wSum cA b10 40 zSum0)) H := hP9
  have hD : va_D A ((h0, .inr (4, [.ref qa, .ref (b9 0), .null, .null, .null, .null])) :: (qa, .inl (cA 3, 8, .inr (.inr (.inr (.inr (va_up (va_up (va_up (va_up (va_up (va_up (va_up (va_up (fun _ => none) (nI 0).toNatClampNeg (some (b1 0))) (nI 1).toNatClampNeg (some (b2 0))) (nI 2).toNatClampNeg (some (b3 0))) (nI 3).toNatClampNeg (some (b4 0))) (nI 4).toNatClampNeg (some (b5 0))) (nI 5).toNatClampNeg (some (b6 0))) (nI 6).toNatClampNeg (some (b7 0))) (nI 7).toNatClampNeg (some (b8 0)))))))) :: (t9 ++ wSum cA b10 40 zSum0)) := hD9
  clear hP9 hD9 hS9
  refine W.widen (k := 41) (n := 1748) (by omega) (by omega) ?_
  obtain ⟨t10, ht10⟩ : ∃ t : va_W, t = (t9 ++ wSum cA b10 40 zSum0) := ⟨_, rfl⟩
  rw [← ht10] at hP hD
  refine va_putF (D := G) (ci := 4) (v := .ref (b10 0)) (ty := .object "AntiDesk$Sum") (C := RX6) (T := TX6) (N := 6) hx hb hts fin_X6 tyX6 tyX6_ok nmX6 hown hK.1 hP hD hS 0 rfl rfl 2 (by decide) (hts _ wi_173) (fun _ h9 => h9) rfl hin rfl (by decide +kernel) rfl rfl (Nat.le_of_ble_eq_true rfl) dX6_init_66 (fun H locs hP hD hS => ?_)
  have hP : va_P G vwCl ((h0, .inr (4, [.ref qa, .ref (b9 0), .ref (b10 0), .null, .null, .null])) :: (qa, .inl (cA 3, 8, .inr (.inr (.inr (.inr (va_up (va_up (va_up (va_up (va_up (va_up (va_up (va_up (fun _ => none) (nI 0).toNatClampNeg (some (b1 0))) (nI 1).toNatClampNeg (some (b2 0))) (nI 2).toNatClampNeg (some (b3 0))) (nI 3).toNatClampNeg (some (b4 0))) (nI 4).toNatClampNeg (some (b5 0))) (nI 5).toNatClampNeg (some (b6 0))) (nI 6).toNatClampNeg (some (b7 0))) (nI 7).toNatClampNeg (some (b8 0)))))))) :: t10) H := hP
  have hD : va_D A ((h0, .inr (4, [.ref qa, .ref (b9 0), .ref (b10 0), .null, .null, .null])) :: (qa, .inl (cA 3, 8, .inr (.inr (.inr (.inr (va_up (va_up (va_up (va_up (va_up (va_up (va_up (va_up (fun _ => none) (nI 0).toNatClampNeg (some (b1 0))) (nI 1).toNatClampNeg (some (b2 0))) (nI 2).toNatClampNeg (some (b3 0))) (nI 3).toNatClampNeg (some (b4 0))) (nI 4).toNatClampNeg (some (b5 0))) (nI 5).toNatClampNeg (some (b6 0))) (nI 6).toNatClampNeg (some (b7 0))) (nI 7).toNatClampNeg (some (b8 0)))))))) :: t10) := hD
  refine lv_aload_n hx hb dX6_init_69 rfl (lv_at hl 1 rfl) ?_
  refine va_new (ci := 0) (fs := [.null, .int 0]) (C := RX1) (T := TX1) (N := 2) hx hb hts fin_X1 tyX1 tyX1_ok hown (hts _ wi_105) (hts _ wi_106) (hts _ wi_57) hK.1 hP hD hS hA rfl (fun j hj => by match j, hj with | 0, _ => rfl | 1, _ => rfl | _ + 2, h => exact absurd h (by omega)) (by decide) (by decide) dX6_init_70 (fun n11 H hP hD hS => ?_)
  refine W.widen (k := 42) (n := 1750) (by omega) (by omega) ?_
  refine lv_dup hx hb dX6_init_73 rfl ?_
  refine cCtor (X := ((h0, .inr (4, [.ref qa, .ref (b9 0), .ref (b10 0), .null, .null, .null])) :: (qa, .inl (cA 3, 8, .inr (.inr (.inr (.inr (va_up (va_up (va_up (va_up (va_up (va_up (va_up (va_up (fun _ => none) (nI 0).toNatClampNeg (some (b1 0))) (nI 1).toNatClampNeg (some (b2 0))) (nI 2).toNatClampNeg (some (b3 0))) (nI 3).toNatClampNeg (some (b4 0))) (nI 4).toNatClampNeg (some (b5 0))) (nI 5).toNatClampNeg (some (b6 0))) (nI 6).toNatClampNeg (some (b7 0))) (nI 7).toNatClampNeg (some (b8 0)))))))) :: t10)) (w0 := (n11, .inr (0, [.null, .int 0]))) (b := fun q : Nat → Nat => q 0) (va_runIN (As := []) (rest := [.ref n11, .ref h0]) (g := F0 m 74 ls _) ⟨hx, hb, hml, hown, hts⟩ (m_X1_init l G cA n11 H.size) (cwN9 0 hts wi_109 wi_108 wi_57 hNl rfl (by decide +kernel) rfl rfl ⟨Nat.le_of_ble_eq_true rfl, Nat.le_of_ble_eq_true rfl⟩) ⟨cI.blind, preI hK hP⟩ rfl rfl hl.1 rfl (lv_room (Nat.le_of_ble_eq_true rfl)) dX6_init_74 ⟨Nat.le_of_ble_eq_true rfl, Nat.le_of_ble_eq_true rfl⟩) hP hD hS hA (fun b11 H9 locs9 hw hP9 hD9 hS9 => ?_)
  clear hP hD hS
  have hw : b11 0 = n11 := hw
  subst hw
  generalize H9 = H at hP9 hS9 ⊢
  generalize locs9 = locs at hS9 ⊢
  have hS := hS9
  have hP : va_P G vwCl ((h0, .inr (4, [.ref qa, .ref (b9 0), .ref (b10 0), .null, .null, .null])) :: (qa, .inl (cA 3, 8, .inr (.inr (.inr (.inr (va_up (va_up (va_up (va_up (va_up (va_up (va_up (va_up (fun _ => none) (nI 0).toNatClampNeg (some (b1 0))) (nI 1).toNatClampNeg (some (b2 0))) (nI 2).toNatClampNeg (some (b3 0))) (nI 3).toNatClampNeg (some (b4 0))) (nI 4).toNatClampNeg (some (b5 0))) (nI 5).toNatClampNeg (some (b6 0))) (nI 6).toNatClampNeg (some (b7 0))) (nI 7).toNatClampNeg (some (b8 0)))))))) :: (t10 ++ wLine cA b11 zLine0)) H := hP9
  have hD : va_D A ((h0, .inr (4, [.ref qa, .ref (b9 0), .ref (b10 0), .null, .null, .null])) :: (qa, .inl (cA 3, 8, .inr (.inr (.inr (.inr (va_up (va_up (va_up (va_up (va_up (va_up (va_up (va_up (fun _ => none) (nI 0).toNatClampNeg (some (b1 0))) (nI 1).toNatClampNeg (some (b2 0))) (nI 2).toNatClampNeg (some (b3 0))) (nI 3).toNatClampNeg (some (b4 0))) (nI 4).toNatClampNeg (some (b5 0))) (nI 5).toNatClampNeg (some (b6 0))) (nI 6).toNatClampNeg (some (b7 0))) (nI 7).toNatClampNeg (some (b8 0)))))))) :: (t10 ++ wLine cA b11 zLine0)) := hD9
  clear hP9 hD9 hS9
  refine W.widen (k := 43) (n := 1850) (by omega) (by omega) ?_
  obtain ⟨t11, ht11⟩ : ∃ t : va_W, t = (t10 ++ wLine cA b11 zLine0) := ⟨_, rfl⟩
  rw [← ht11] at hP hD
  refine va_putF (D := G) (ci := 4) (v := .ref (b11 0)) (ty := .object "AntiDesk$Line") (C := RX6) (T := TX6) (N := 6) hx hb hts fin_X6 tyX6 tyX6_ok nmX6 hown hK.1 hP hD hS 0 rfl rfl 3 (by decide) (hts _ wi_174) (fun _ h9 => h9) rfl hin rfl (by decide +kernel) rfl rfl (Nat.le_of_ble_eq_true rfl) dX6_init_77 (fun H locs hP hD hS => ?_)
  have hP : va_P G vwCl ((h0, .inr (4, [.ref qa, .ref (b9 0), .ref (b10 0), .ref (b11 0), .null, .null])) :: (qa, .inl (cA 3, 8, .inr (.inr (.inr (.inr (va_up (va_up (va_up (va_up (va_up (va_up (va_up (va_up (fun _ => none) (nI 0).toNatClampNeg (some (b1 0))) (nI 1).toNatClampNeg (some (b2 0))) (nI 2).toNatClampNeg (some (b3 0))) (nI 3).toNatClampNeg (some (b4 0))) (nI 4).toNatClampNeg (some (b5 0))) (nI 5).toNatClampNeg (some (b6 0))) (nI 6).toNatClampNeg (some (b7 0))) (nI 7).toNatClampNeg (some (b8 0)))))))) :: t11) H := hP
  have hD : va_D A ((h0, .inr (4, [.ref qa, .ref (b9 0), .ref (b10 0), .ref (b11 0), .null, .null])) :: (qa, .inl (cA 3, 8, .inr (.inr (.inr (.inr (va_up (va_up (va_up (va_up (va_up (va_up (va_up (va_up (fun _ => none) (nI 0).toNatClampNeg (some (b1 0))) (nI 1).toNatClampNeg (some (b2 0))) (nI 2).toNatClampNeg (some (b3 0))) (nI 3).toNatClampNeg (some (b4 0))) (nI 4).toNatClampNeg (some (b5 0))) (nI 5).toNatClampNeg (some (b6 0))) (nI 6).toNatClampNeg (some (b7 0))) (nI 7).toNatClampNeg (some (b8 0)))))))) :: t11) := hD
  refine lv_aload_n hx hb dX6_init_80 rfl (lv_at hl 1 rfl) ?_
  refine va_new (ci := 1) (fs := [.null, .null, .int 0, .int 0, .int 0, .long 0, .long 0, .int 0, .int 0, .int 0]) (C := RX3) (T := TX3) (N := 10) hx hb hts fin_X3 tyX3 tyX3_ok hown (hts _ wi_121) (hts _ wi_122) (hts _ wi_58) hK.1 hP hD hS hA rfl (fun j hj => by match j, hj with | 0, _ => rfl | 1, _ => rfl | 2, _ => rfl | 3, _ => rfl | 4, _ => rfl | 5, _ => rfl | 6, _ => rfl | 7, _ => rfl | 8, _ => rfl | 9, _ => rfl | _ + 10, h => exact absurd h (by omega)) (by decide) (by decide) dX6_init_81 (fun n12 H hP hD hS => ?_)
  refine W.widen (k := 44) (n := 1860) (by omega) (by omega) ?_
  refine lv_dup hx hb dX6_init_84 rfl ?_
  refine lv_aload_n hx hb dX6_init_85 rfl (lv_at hl 1 rfl) ?_
  refine va_get (D := G) (ci := 4) (v := .ref (b11 0)) (C := RX6) (T := TX6) (N := 6) hx hb hts fin_X6 hown hK.1 hP 0 rfl rfl 3 (by decide) (hts _ wi_174) (fun _ h9 => h9) rfl dX6_init_86 ?_
  refine lv_aload_n hx hb dX6_init_89 rfl (lv_at hl 1 rfl) ?_
  refine va_get (D := G) (ci := 4) (v := .ref (b9 0)) (C := RX6) (T := TX6) (N := 6) hx hb hts fin_X6 hown hK.1 hP 0 rfl rfl 1 (by decide) (hts _ wi_172) (fun _ h9 => h9) rfl dX6_init_90 ?_
  refine cCtor (X := ((h0, .inr (4, [.ref qa, .ref (b9 0), .ref (b10 0), .ref (b11 0), .null, .null])) :: (qa, .inl (cA 3, 8, .inr (.inr (.inr (.inr (va_up (va_up (va_up (va_up (va_up (va_up (va_up (va_up (fun _ => none) (nI 0).toNatClampNeg (some (b1 0))) (nI 1).toNatClampNeg (some (b2 0))) (nI 2).toNatClampNeg (some (b3 0))) (nI 3).toNatClampNeg (some (b4 0))) (nI 4).toNatClampNeg (some (b5 0))) (nI 5).toNatClampNeg (some (b6 0))) (nI 6).toNatClampNeg (some (b7 0))) (nI 7).toNatClampNeg (some (b8 0)))))))) :: t11)) (w0 := (n12, .inr (1, [.null, .null, .int 0, .int 0, .int 0, .long 0, .long 0, .int 0, .int 0, .int 0]))) (b := fun q : Nat → Nat => q 0) (va_runI (As := [.ref (b11 0), .ref (b9 0)]) (rest := [.ref n12, .ref h0]) (g := F0 m 93 ls _) ⟨hx, hb, hml, hown, hts⟩ (m_X3_init l G cA n12 H.size b11 b9) (cwI9 2 hts wi_125 wi_124 wi_58 wi_123 rfl (by decide +kernel) rfl rfl ⟨Nat.le_of_ble_eq_true rfl, Nat.le_of_ble_eq_true rfl⟩) ⟨cI.blind, preI hK hP⟩ rfl rfl hl.1 rfl (lv_room (Nat.le_of_ble_eq_true rfl)) dX6_init_93 ⟨Nat.le_of_ble_eq_true rfl, Nat.le_of_ble_eq_true rfl⟩) hP hD hS hA (fun b12 H9 locs9 hw hP9 hD9 hS9 => ?_)
  clear hP hD hS
  have hw : b12 0 = n12 := hw
  subst hw
  generalize H9 = H at hP9 hS9 ⊢
  generalize locs9 = locs at hS9 ⊢
  have hS := hS9
  have hP : va_P G vwCl ((h0, .inr (4, [.ref qa, .ref (b9 0), .ref (b10 0), .ref (b11 0), .null, .null])) :: (qa, .inl (cA 3, 8, .inr (.inr (.inr (.inr (va_up (va_up (va_up (va_up (va_up (va_up (va_up (va_up (fun _ => none) (nI 0).toNatClampNeg (some (b1 0))) (nI 1).toNatClampNeg (some (b2 0))) (nI 2).toNatClampNeg (some (b3 0))) (nI 3).toNatClampNeg (some (b4 0))) (nI 4).toNatClampNeg (some (b5 0))) (nI 5).toNatClampNeg (some (b6 0))) (nI 6).toNatClampNeg (some (b7 0))) (nI 7).toNatClampNeg (some (b8 0)))))))) :: (t11 ++ wRd b12 b11 b9 zRd0)) H := hP9
  have hD : va_D A ((h0, .inr (4, [.ref qa, .ref (b9 0), .ref (b10 0), .ref (b11 0), .null, .null])) :: (qa, .inl (cA 3, 8, .inr (.inr (.inr (.inr (va_up (va_up (va_up (va_up (va_up (va_up (va_up (va_up (fun _ => none) (nI 0).toNatClampNeg (some (b1 0))) (nI 1).toNatClampNeg (some (b2 0))) (nI 2).toNatClampNeg (some (b3 0))) (nI 3).toNatClampNeg (some (b4 0))) (nI 4).toNatClampNeg (some (b5 0))) (nI 5).toNatClampNeg (some (b6 0))) (nI 6).toNatClampNeg (some (b7 0))) (nI 7).toNatClampNeg (some (b8 0)))))))) :: (t11 ++ wRd b12 b11 b9 zRd0)) := hD9
  clear hP9 hD9 hS9
  refine W.widen (k := 44) (n := 1860) (by omega) (by omega) ?_
  obtain ⟨t12, ht12⟩ : ∃ t : va_W, t = (t11 ++ wRd b12 b11 b9 zRd0) := ⟨_, rfl⟩
  rw [← ht12] at hP hD
  refine va_putF (D := G) (ci := 4) (v := .ref (b12 0)) (ty := .object "AntiDesk$Reader") (C := RX6) (T := TX6) (N := 6) hx hb hts fin_X6 tyX6 tyX6_ok nmX6 hown hK.1 hP hD hS 0 rfl rfl 4 (by decide) (hts _ wi_175) (fun _ h9 => h9) rfl hin rfl (by decide +kernel) rfl rfl (Nat.le_of_ble_eq_true rfl) dX6_init_96 (fun H locs hP hD hS => ?_)
  have hP : va_P G vwCl ((h0, .inr (4, [.ref qa, .ref (b9 0), .ref (b10 0), .ref (b11 0), .ref (b12 0), .null])) :: (qa, .inl (cA 3, 8, .inr (.inr (.inr (.inr (va_up (va_up (va_up (va_up (va_up (va_up (va_up (va_up (fun _ => none) (nI 0).toNatClampNeg (some (b1 0))) (nI 1).toNatClampNeg (some (b2 0))) (nI 2).toNatClampNeg (some (b3 0))) (nI 3).toNatClampNeg (some (b4 0))) (nI 4).toNatClampNeg (some (b5 0))) (nI 5).toNatClampNeg (some (b6 0))) (nI 6).toNatClampNeg (some (b7 0))) (nI 7).toNatClampNeg (some (b8 0)))))))) :: t12) H := hP
  have hD : va_D A ((h0, .inr (4, [.ref qa, .ref (b9 0), .ref (b10 0), .ref (b11 0), .ref (b12 0), .null])) :: (qa, .inl (cA 3, 8, .inr (.inr (.inr (.inr (va_up (va_up (va_up (va_up (va_up (va_up (va_up (va_up (fun _ => none) (nI 0).toNatClampNeg (some (b1 0))) (nI 1).toNatClampNeg (some (b2 0))) (nI 2).toNatClampNeg (some (b3 0))) (nI 3).toNatClampNeg (some (b4 0))) (nI 4).toNatClampNeg (some (b5 0))) (nI 5).toNatClampNeg (some (b6 0))) (nI 6).toNatClampNeg (some (b7 0))) (nI 7).toNatClampNeg (some (b8 0)))))))) :: t12) := hD
  refine lv_aload_n hx hb dX6_init_99 rfl (lv_at hl 1 rfl) ?_
  refine va_new (ci := 3) (fs := [.null, .int 0]) (C := RX5) (T := TX5) (N := 2) hx hb hts fin_X5 tyX5 tyX5_ok hown (hts _ wi_158) (hts _ wi_159) (hts _ wi_59) hK.1 hP hD hS hA rfl (fun j hj => by match j, hj with | 0, _ => rfl | 1, _ => rfl | _ + 2, h => exact absurd h (by omega)) (by decide) (by decide) dX6_init_100 (fun n13 H hP hD hS => ?_)
  refine W.widen (k := 45) (n := 1862) (by omega) (by omega) ?_
  refine lv_dup hx hb dX6_init_103 rfl ?_
  refine cCtor (X := ((h0, .inr (4, [.ref qa, .ref (b9 0), .ref (b10 0), .ref (b11 0), .ref (b12 0), .null])) :: (qa, .inl (cA 3, 8, .inr (.inr (.inr (.inr (va_up (va_up (va_up (va_up (va_up (va_up (va_up (va_up (fun _ => none) (nI 0).toNatClampNeg (some (b1 0))) (nI 1).toNatClampNeg (some (b2 0))) (nI 2).toNatClampNeg (some (b3 0))) (nI 3).toNatClampNeg (some (b4 0))) (nI 4).toNatClampNeg (some (b5 0))) (nI 5).toNatClampNeg (some (b6 0))) (nI 6).toNatClampNeg (some (b7 0))) (nI 7).toNatClampNeg (some (b8 0)))))))) :: t12)) (w0 := (n13, .inr (3, [.null, .int 0]))) (b := fun q : Nat → Nat => q 0) (va_runIN (As := []) (rest := [.ref n13, .ref h0]) (g := F0 m 104 ls _) ⟨hx, hb, hml, hown, hts⟩ (m_X5_init l G cA n13 H.size) (cwN9 0 hts wi_162 wi_161 wi_59 hNw rfl (by decide +kernel) rfl rfl ⟨Nat.le_of_ble_eq_true rfl, Nat.le_of_ble_eq_true rfl⟩) ⟨cI.blind, preI hK hP⟩ rfl rfl hl.1 rfl (lv_room (Nat.le_of_ble_eq_true rfl)) dX6_init_104 ⟨Nat.le_of_ble_eq_true rfl, Nat.le_of_ble_eq_true rfl⟩) hP hD hS hA (fun b13 H9 locs9 hw hP9 hD9 hS9 => ?_)
  clear hP hD hS
  have hw : b13 0 = n13 := hw
  subst hw
  generalize H9 = H at hP9 hS9 ⊢
  generalize locs9 = locs at hS9 ⊢
  have hS := hS9
  have hP : va_P G vwCl ((h0, .inr (4, [.ref qa, .ref (b9 0), .ref (b10 0), .ref (b11 0), .ref (b12 0), .null])) :: (qa, .inl (cA 3, 8, .inr (.inr (.inr (.inr (va_up (va_up (va_up (va_up (va_up (va_up (va_up (va_up (fun _ => none) (nI 0).toNatClampNeg (some (b1 0))) (nI 1).toNatClampNeg (some (b2 0))) (nI 2).toNatClampNeg (some (b3 0))) (nI 3).toNatClampNeg (some (b4 0))) (nI 4).toNatClampNeg (some (b5 0))) (nI 5).toNatClampNeg (some (b6 0))) (nI 6).toNatClampNeg (some (b7 0))) (nI 7).toNatClampNeg (some (b8 0)))))))) :: (t12 ++ wWr cA b13 zWr0)) H := hP9
  have hD : va_D A ((h0, .inr (4, [.ref qa, .ref (b9 0), .ref (b10 0), .ref (b11 0), .ref (b12 0), .null])) :: (qa, .inl (cA 3, 8, .inr (.inr (.inr (.inr (va_up (va_up (va_up (va_up (va_up (va_up (va_up (va_up (fun _ => none) (nI 0).toNatClampNeg (some (b1 0))) (nI 1).toNatClampNeg (some (b2 0))) (nI 2).toNatClampNeg (some (b3 0))) (nI 3).toNatClampNeg (some (b4 0))) (nI 4).toNatClampNeg (some (b5 0))) (nI 5).toNatClampNeg (some (b6 0))) (nI 6).toNatClampNeg (some (b7 0))) (nI 7).toNatClampNeg (some (b8 0)))))))) :: (t12 ++ wWr cA b13 zWr0)) := hD9
  clear hP9 hD9 hS9
  refine W.widen (k := 46) (n := 3062) (by omega) (by omega) ?_
  obtain ⟨t13, ht13⟩ : ∃ t : va_W, t = (t12 ++ wWr cA b13 zWr0) := ⟨_, rfl⟩
  rw [← ht13] at hP hD
  refine va_putF (D := G) (ci := 4) (v := .ref (b13 0)) (ty := .object "AntiDesk$Writer") (C := RX6) (T := TX6) (N := 6) hx hb hts fin_X6 tyX6 tyX6_ok nmX6 hown hK.1 hP hD hS 0 rfl rfl 5 (by decide) (hts _ wi_176) (fun _ h9 => h9) rfl hin rfl (by decide +kernel) rfl rfl (Nat.le_of_ble_eq_true rfl) dX6_init_107 (fun H locs hP hD hS => ?_)
  have hP : va_P G vwCl ((h0, .inr (4, [.ref qa, .ref (b9 0), .ref (b10 0), .ref (b11 0), .ref (b12 0), .ref (b13 0)])) :: (qa, .inl (cA 3, 8, .inr (.inr (.inr (.inr (va_up (va_up (va_up (va_up (va_up (va_up (va_up (va_up (fun _ => none) (nI 0).toNatClampNeg (some (b1 0))) (nI 1).toNatClampNeg (some (b2 0))) (nI 2).toNatClampNeg (some (b3 0))) (nI 3).toNatClampNeg (some (b4 0))) (nI 4).toNatClampNeg (some (b5 0))) (nI 5).toNatClampNeg (some (b6 0))) (nI 6).toNatClampNeg (some (b7 0))) (nI 7).toNatClampNeg (some (b8 0)))))))) :: t13) H := hP
  have hD : va_D A ((h0, .inr (4, [.ref qa, .ref (b9 0), .ref (b10 0), .ref (b11 0), .ref (b12 0), .ref (b13 0)])) :: (qa, .inl (cA 3, 8, .inr (.inr (.inr (.inr (va_up (va_up (va_up (va_up (va_up (va_up (va_up (va_up (fun _ => none) (nI 0).toNatClampNeg (some (b1 0))) (nI 1).toNatClampNeg (some (b2 0))) (nI 2).toNatClampNeg (some (b3 0))) (nI 3).toNatClampNeg (some (b4 0))) (nI 4).toNatClampNeg (some (b5 0))) (nI 5).toNatClampNeg (some (b6 0))) (nI 6).toNatClampNeg (some (b7 0))) (nI 7).toNatClampNeg (some (b8 0)))))))) :: t13) := hD
  subst ht13 ht12 ht11 ht10 ht9 ht8 ht7 ht6 ht5 ht4 ht3 ht2 ht1 ht0
  have hP : va_P G vwCl ((h0, .inr (4, [.ref qa, .ref (b9 0), .ref (b10 0), .ref (b11 0), .ref (b12 0), .ref (b13 0)])) :: (qa, .inl (cA 3, 8, .inr (.inr (.inr (.inr (va_up (va_up (va_up (va_up (va_up (va_up (va_up (va_up (fun _ => none) (nI 0).toNatClampNeg (some (b1 0))) (nI 1).toNatClampNeg (some (b2 0))) (nI 2).toNatClampNeg (some (b3 0))) (nI 3).toNatClampNeg (some (b4 0))) (nI 4).toNatClampNeg (some (b5 0))) (nI 5).toNatClampNeg (some (b6 0))) (nI 6).toNatClampNeg (some (b7 0))) (nI 7).toNatClampNeg (some (b8 0)))))))) :: ((((((((((((([] ++ wSum cA b1 40 zSum0) ++ wSum cA b2 40 zSum0) ++ wSum cA b3 40 zSum0) ++ wSum cA b4 40 zSum0) ++ wSum cA b5 40 zSum0) ++ wSum cA b6 40 zSum0) ++ wSum cA b7 40 zSum0) ++ wSum cA b8 40 zSum0) ++ wSum cA b9 200 zSum0) ++ wSum cA b10 40 zSum0) ++ wLine cA b11 zLine0) ++ wRd b12 b11 b9 zRd0) ++ wWr cA b13 zWr0)) H := hP
  have hP := hP.arr 1 qa (g := fun j => some ((mkQ (mk2 h0 qa) b9 b10 b11 b12 b13 b1 b2 b3 b4 b5 b6 b7 b8) (6 + j) 0)) rfl (fun j hj => lt8 (P := fun j => _ = some ((mkQ (mk2 h0 qa) b9 b10 b11 b12 b13 b1 b2 b3 b4 b5 b6 b7 b8) (6 + j) 0)) hj rfl rfl rfl rfl rfl rfl rfl rfl)
  have hP : va_P G vwCl ((h0, .inr (4, [.ref qa, .ref (b9 0), .ref (b10 0), .ref (b11 0), .ref (b12 0), .ref (b13 0)])) :: (qa, .inl (cA 3, 8, .inr (.inr (.inr (.inr (fun j => some ((mkQ (mk2 h0 qa) b9 b10 b11 b12 b13 b1 b2 b3 b4 b5 b6 b7 b8) (6 + j) 0))))))) :: ((((((((((((([] ++ wSum cA b1 40 zSum0) ++ wSum cA b2 40 zSum0) ++ wSum cA b3 40 zSum0) ++ wSum cA b4 40 zSum0) ++ wSum cA b5 40 zSum0) ++ wSum cA b6 40 zSum0) ++ wSum cA b7 40 zSum0) ++ wSum cA b8 40 zSum0) ++ wSum cA b9 200 zSum0) ++ wSum cA b10 40 zSum0) ++ wLine cA b11 zLine0) ++ wRd b12 b11 b9 zRd0) ++ wWr cA b13 zWr0)) H := hP
  have hD : va_D A ((h0, .inr (4, [.ref qa, .ref (b9 0), .ref (b10 0), .ref (b11 0), .ref (b12 0), .ref (b13 0)])) :: (qa, .inl (cA 3, 8, .inr (.inr (.inr (.inr (fun j => some ((mkQ (mk2 h0 qa) b9 b10 b11 b12 b13 b1 b2 b3 b4 b5 b6 b7 b8) (6 + j) 0))))))) :: ((((((((((((([] ++ wSum cA b1 40 zSum0) ++ wSum cA b2 40 zSum0) ++ wSum cA b3 40 zSum0) ++ wSum cA b4 40 zSum0) ++ wSum cA b5 40 zSum0) ++ wSum cA b6 40 zSum0) ++ wSum cA b7 40 zSum0) ++ wSum cA b8 40 zSum0) ++ wSum cA b9 200 zSum0) ++ wSum cA b10 40 zSum0) ++ wLine cA b11 zLine0) ++ wRd b12 b11 b9 zRd0) ++ wWr cA b13 zWr0)) := va_D.same (sameHead _ _ _ _ _) hD
  have hP := hP.perm (desk_perm _ _ _ _ _ _ _ _ _ _ _ _ _ _ _)
  have hD := hD.perm (desk_perm _ _ _ _ _ _ _ _ _ _ _ _ _ _ _)
  have hP : va_P G vwCl (wDesk cA (mkQ (mk2 h0 qa) b9 b10 b11 b12 b13 b1 b2 b3 b4 b5 b6 b7 b8) zDesk0) H := hP
  have hD : va_D A (wDesk cA (mkQ (mk2 h0 qa) b9 b10 b11 b12 b13 b1 b2 b3 b4 b5 b6 b7 b8) zDesk0) := hD
  exact W.vret hx hb hr (fun t ht hW => ⟨⟨(mkQ (mk2 h0 qa) b9 b10 b11 b12 b13 b1 b2 b3 b4 b5 b6 b7 b8), rfl, rfl, toT ht hP, hAe ▸ hD⟩, hAe ▸ hS.F ht⟩) hS.2.2 dX6_init_110 hlocks
