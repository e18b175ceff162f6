theorem xBad_tbl : ∀ w ∈ xBad, w ∈ lw_tbl := by decide +kernel
theorem xTexts_tbl : ∀ q ∈ xTexts, Cond.stringRef RX6 q.1 q.2 ∈ lw_tbl := by decide +kernel
theorem xTexts_flat {s : State} {b : Nat} (hgv : (Jvm.Cond.and given_1 narrow_1).before #[Value.ref b] s = true) : ∀ q ∈ xTexts, (Cond.exactly (.string RX6 q.1) "java/lang/String").before #[Value.ref b] s = true := by
  have hs := flat_of_before _ hgv
  intro q hq
  simp only [xTexts, List.mem_cons, List.not_mem_nil, or_false] at hq
  rcases hq with rfl | rfl | rfl | rfl | rfl | rfl | rfl
  · exact hs _ (by decide +kernel)
  · exact hs _ (by decide +kernel)
  · exact hs _ (by decide +kernel)
  · exact hs _ (by decide +kernel)
  · exact hs _ (by decide +kernel)
  · exact hs _ (by decide +kernel)
  · exact hs _ (by decide +kernel)
theorem start_xH {s : State} {b : Nat} (hts0 : ∀ w ∈ lw_tbl, w.before #[Value.ref b] s = true) (hgv : (Jvm.Cond.and given_1 narrow_1).before #[Value.ref b] s = true) : ∃ sa : Nat → Nat, xH (fun q : Nat => s.heap.size ≤ q) sa s := by
  have hs := flat_of_before _ hgv
  have hA : ∀ a : Nat, a < s.heap.size → ¬ (fun q : Nat => s.heap.size ≤ q) a := fun a h => Nat.not_le.mpr h
  have hex : ∀ k : Nat, ∃ a : Nat, ∀ tx, (k, tx) ∈ xTexts → (Term.string RX6 k).eval #[Value.ref b] s none [] s = some (.ref a) := by
    intro k
    by_cases h : ∃ tx, (k, tx) ∈ xTexts
    · obtain ⟨tx, h⟩ := h
      obtain ⟨a, -, -, -, ha, -⟩ := Cond.exactly_spec (xTexts_flat hgv _ h)
      exact ⟨a, fun _ _ => ha⟩
    · exact ⟨0, fun tx h2 => absurd ⟨tx, h2⟩ h⟩
  refine ⟨fun k => Classical.choose (hex k), ⟨vx_Zqof (hts0 (.laysStatic Bundle.tN "UNASSIGNED_STACK" Bundle.steD) (by decide +kernel)) (hts0 (.initialized Bundle.tN) (by decide +kernel)) (hs (.isRef (.static Bundle.tN "UNASSIGNED_STACK" Bundle.steD)) (by decide +kernel)) hA, vx_Zqof (hts0 (.laysStatic Bundle.tN "SUPPRESSED_SENTINEL" Bundle.listD) (by decide +kernel)) (hts0 (.initialized Bundle.tN) (by decide +kernel)) (hs (.isRef (.static Bundle.tN "SUPPRESSED_SENTINEL" Bundle.listD)) (by decide +kernel)) hA, fun q hq => vk_R.of (A := #[Value.ref b]) (hts0 _ (xTexts_tbl q hq)) (Classical.choose_spec (hex q.1) q.2 hq), fun w hw => va_Nw.of (xBad_on w hw) (hts0 w (xBad_tbl w hw))⟩, va_Nc.of (hs (.not (.castable "java/lang/IllegalStateException" "java/lang/IllegalArgumentException")) (by decide +kernel))⟩
theorem start_kOK {s : State} {b : Nat} (hts0 : ∀ w ∈ lw_tbl, w.before #[Value.ref b] s = true) : ∃ (G : va_G) (cA : Nat → ClassId), kOK G cA s := by
  have hts : ∀ w ∈ wd, w.before #[Value.ref b] s = true := fun w h => hts0 w (List.mem_filter.mp h).1
  obtain ⟨c0, i0, k0⟩ := u_known (C := RX1) (T := TX1) (N := 2) (n := 2) hts fin_X1 (hts _ wi_106)
  obtain ⟨c1, i1, k1⟩ := u_known (C := RX3) (T := TX3) (N := 10) (n := 10) hts fin_X3 (hts _ wi_122)
  obtain ⟨c2, i2, k2⟩ := u_known (C := RX4) (T := TX4) (N := 6) (n := 6) hts fin_X4 (hts _ wi_79)
  obtain ⟨c3, i3, k3⟩ := u_known (C := RX5) (T := TX5) (N := 2) (n := 2) hts fin_X5 (hts _ wi_159)
  obtain ⟨c4, i4, k4⟩ := u_known (C := RX6) (T := TX6) (N := 6) (n := 6) hts fin_X6 (hts _ wi_70)
  obtain ⟨c5, i5, k5⟩ := u_known (C := RX7) (T := TX7) (N := 13) (n := 13) hts fin_X7 (hts _ wi_666)
  obtain ⟨a0, e0, f0, p0, q0, r0⟩ := Cond.arrayClass_spec (hts _ wi_103)
  obtain ⟨a1, e1, f1, p1, q1, r1⟩ := Cond.arrayClass_spec (hts _ wi_104)
  obtain ⟨a2, e2, f2, p2, q2, r2⟩ := Cond.arrayClass_spec (hts _ wi_120)
  obtain ⟨f3, a3, e3, p3, -, q3, r3, s3⟩ := Cond.arrayOver_spec (hts0 (.arrayOver (.object "AntiDesk$Sum")) (by decide +kernel))
  refine ⟨(fun k => match k with | 0 => c0 | 1 => c1 | 2 => c2 | 3 => c3 | 4 => c4 | _ => c5, fun k => match k with | 0 => i0 | 1 => i1 | 2 => i2 | 3 => i3 | 4 => i4 | _ => i5), (fun k => match k with | 0 => a0 | 1 => a1 | 2 => a2 | _ => a3), ⟨fun k q hq => ?_, fun k q hq => ?_⟩, va_Nw.of rfl (hts0 (.fieldLinkNest "AntiDesk$Reader" 108 "AntiDesk$Line" "length" "I" "AntiDesk") (by decide +kernel)), va_Nw.of rfl (hts0 (.fieldLinkNest "AntiDesk$Reader" 111 "AntiDesk$Line" "characters" "[C" "AntiDesk") (by decide +kernel))⟩
  · match k, hq with
    | 0, hq => cases hq; exact k0
    | 1, hq => cases hq; exact k1
    | 2, hq => cases hq; exact k2
    | 3, hq => cases hq; exact k3
    | 4, hq => cases hq; exact k4
    | 5, hq => cases hq; exact k5
    | k + 6, hq => simp [vwCl] at hq
  · match k, hq with
    | 0, hq => cases hq; exact ⟨fun N z => ⟨(fun k h => by cases h), e0, q0, f0, r0⟩, p0⟩
    | 1, hq => cases hq; exact ⟨fun N z => ⟨(fun k h => by cases h), e1, q1, f1, r1⟩, p1⟩
    | 2, hq => cases hq; exact ⟨fun N z => ⟨(fun k h => by cases h), e2, q2, f2, r2⟩, p2⟩
    | 3, hq => cases hq; exact ⟨fun N z => ⟨(fun k h => by cases h), e3, q3, f3, r3⟩, ⟨e3, f3, q3, r3, p3, s3⟩⟩
    | k + 4, hq => simp [tysA] at hq
