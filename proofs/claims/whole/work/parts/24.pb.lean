def ky (kd : Nat) (ag pw : Int) : Nat := kd * 2048 + (ag + 16).toNat * 64 + (31 - pw).toNat
def kdK (k : Nat) : Nat := k / 2048
def agK (k : Nat) : Int := (k / 64 % 32 : Nat) - 16
def pwK (k : Nat) : Int := 31 - (k % 64 : Nat)
def okA (ag pw : Int) : Prop := -16 ≤ ag ∧ ag ≤ 15 ∧ -31 ≤ pw ∧ pw ≤ 31
set_option maxHeartbeats 1000000 in
set_option maxRecDepth 100000 in
theorem kdK_ky {kd : Nat} {ag pw : Int} (h : okA ag pw) : kdK (ky kd ag pw) = kd := by unfold okA at h; unfold kdK ky; omega
set_option maxHeartbeats 1000000 in
set_option maxRecDepth 100000 in
theorem agK_ky {kd : Nat} {ag pw : Int} (h : okA ag pw) : agK (ky kd ag pw) = ag := by unfold okA at h; unfold agK ky; omega
set_option maxHeartbeats 1000000 in
set_option maxRecDepth 100000 in
theorem pwK_ky {kd : Nat} {ag pw : Int} (h : okA ag pw) : pwK (ky kd ag pw) = pw := by unfold okA at h; unfold pwK ky; omega
set_option maxHeartbeats 1000000 in
set_option maxRecDepth 100000 in
theorem ky_lt {kd : Nat} {ag pw : Int} (h : okA ag pw) (hk : kd ≤ 4) : ky kd ag pw < 10240 := by unfold okA at h; unfold ky; omega
set_option maxHeartbeats 1000000 in
set_option maxRecDepth 100000 in
theorem ky_dec (k : Nat) : ky (kdK k) (agK k) (pwK k) = k := by unfold ky kdK agK pwK; omega
set_option maxHeartbeats 1000000 in
set_option maxRecDepth 100000 in
theorem ky_inj {kd kd' : Nat} {ag pw ag' pw' : Int} (h : okA ag pw) (h' : okA ag' pw') (e : ky kd ag pw = ky kd' ag' pw') : kd = kd' ∧ ag = ag' ∧ pw = pw' := by
  unfold okA at h h'; unfold ky at e; omega
set_option maxHeartbeats 1000000 in
set_option maxRecDepth 100000 in
theorem keyOf_dec : ∀ kd : Fin 5, ∀ a : Fin 32, ∀ p : Fin 63, f_X4_keyOf (nI kd.val) (I32 ((a.val : Int) - 16)) (I32 ((p.val : Int) - 31)) = some (nI (ky kd.val ((a.val : Int) - 16) ((p.val : Int) - 31))) := by decide +kernel
set_option maxHeartbeats 1000000 in
set_option maxRecDepth 100000 in
theorem keyOf_eq {kd : Nat} {ag pw : Int} (h : okA ag pw) (hk : kd ≤ 4) : f_X4_keyOf (nI kd) (I32 ag) (I32 pw) = some (nI (ky kd ag pw)) := by
  have h' := h
  unfold okA at h
  have := keyOf_dec ⟨kd, by omega⟩ ⟨(ag + 16).toNat, by omega⟩ ⟨(pw + 31).toNat, by omega⟩
  have e1 : (((ag + 16).toNat : Nat) : Int) - 16 = ag := by omega
  have e2 : (((pw + 31).toNat : Nat) : Int) - 31 = pw := by omega
  simp only [e1, e2] at this
  exact this
set_option maxHeartbeats 1000000 in
set_option maxRecDepth 100000 in
theorem dec_dec : ∀ a : Fin 160, ∀ b : Fin 64, (nI (a.val * 64 + b.val)) >>> ((11 : Int32) &&& 31) = nI (kdK (a.val * 64 + b.val)) ∧ (((nI (a.val * 64 + b.val)) >>> ((6 : Int32) &&& 31)) &&& (31 : Int32)) - (16 : Int32) = I32 (agK (a.val * 64 + b.val)) ∧ (31 : Int32) - ((nI (a.val * 64 + b.val)) &&& (63 : Int32)) = I32 (pwK (a.val * 64 + b.val)) := by decide +kernel
set_option maxHeartbeats 1000000 in
set_option maxRecDepth 100000 in
theorem dec_eq {k : Nat} (h : k < 10240) : (nI k) >>> ((11 : Int32) &&& 31) = nI (kdK k) ∧ (((nI k) >>> ((6 : Int32) &&& 31)) &&& (31 : Int32)) - (16 : Int32) = I32 (agK k) ∧ (31 : Int32) - ((nI k) &&& (63 : Int32)) = I32 (pwK k) := by
  have := dec_dec ⟨k / 64, by omega⟩ ⟨k % 64, by omega⟩
  have e : k / 64 * 64 + k % 64 = k := by omega
  simp only [e] at this
  exact this
def kdF (f : Nat) : Nat := if f = 0 then 0 else if f < 10 then 1 else if f < 28 then 2 else if f < 37 then 3 else 4
def ctF (f : Nat) : Int := if f < 10 then f else if f < 19 then (f : Int) - 19 else if f < 28 then (f : Int) - 18 else if f < 37 then (f : Int) - 27 else (f : Int) - 36
def kc (c : Nat) : Nat := ky (kdF (c / 25)) (ctF (c / 25)) ((c % 25 : Nat) - 12)
def fnK (kd : Nat) (n : Int) : Nat := if kd = 0 then 0 else if kd = 1 then n.toNat else if kd = 2 then (if n < 0 then (n + 19).toNat else (n + 18).toNat) else if kd = 3 then (n + 27).toNat else (n + 36).toNat
def ck (k : Nat) : Nat := 25 * fnK (kdK k) (agK k) + (pwK k + 12).toNat
set_option maxHeartbeats 1000000 in
set_option maxRecDepth 100000 in
theorem kc_dec : ∀ f : Fin 46, ∀ m : Fin 25, ck (kc (25 * f.val + m.val)) = 25 * f.val + m.val ∧ kc (25 * f.val + m.val) < 10240 ∧ okA (ctF f.val) ((m.val : Int) - 12) := by unfold okA; decide +kernel
set_option maxHeartbeats 1000000 in
set_option maxRecDepth 100000 in
theorem ck_kc {c : Nat} (h : c < 1150) : ck (kc c) = c := by
  have := (kc_dec ⟨c / 25, by omega⟩ ⟨c % 25, by omega⟩).1
  have e : 25 * (c / 25) + c % 25 = c := by omega
  simp only [e] at this; exact this
set_option maxHeartbeats 1000000 in
set_option maxRecDepth 100000 in
theorem kc_lt {c : Nat} (h : c < 1150) : kc c < 10240 := by
  have := (kc_dec ⟨c / 25, by omega⟩ ⟨c % 25, by omega⟩).2.1
  have e : 25 * (c / 25) + c % 25 = c := by omega
  simp only [e] at this; exact this
set_option maxHeartbeats 1000000 in
set_option maxRecDepth 100000 in
theorem kc_ok {c : Nat} (h : c < 1150) : okA (ctF (c / 25)) ((c % 25 : Nat) - 12) := (kc_dec ⟨c / 25, by omega⟩ ⟨c % 25, by omega⟩).2.2
set_option maxHeartbeats 1000000 in
set_option maxRecDepth 100000 in
theorem kc_inj {c d : Nat} (h : c < 1150) (h' : d < 1150) (e : kc c = kc d) : c = d := by
  rw [← ck_kc h, e, ck_kc h']
def vkd (kd : Nat) (ag pw : Int) : Prop := -12 ≤ pw ∧ pw ≤ 12 ∧ ((kd = 0 ∧ ag = 0) ∨ (kd = 1 ∧ 1 ≤ ag ∧ ag ≤ 9) ∨ (kd = 2 ∧ ag ≠ 0 ∧ -9 ≤ ag ∧ ag ≤ 9) ∨ ((kd = 3 ∨ kd = 4) ∧ 1 ≤ ag ∧ ag ≤ 9))
def vk (k : Nat) : Prop := ∃ c, c < 1150 ∧ kc c = k
set_option maxHeartbeats 1000000 in
set_option maxRecDepth 100000 in
theorem kdF_cases (f : Nat) (h : f < 46) : (f = 0 ∧ kdF f = 0 ∧ ctF f = 0) ∨ (1 ≤ f ∧ f ≤ 9 ∧ kdF f = 1 ∧ ctF f = f) ∨ (10 ≤ f ∧ f ≤ 18 ∧ kdF f = 2 ∧ ctF f = (f : Int) - 19) ∨ (19 ≤ f ∧ f ≤ 27 ∧ kdF f = 2 ∧ ctF f = (f : Int) - 18) ∨ (28 ≤ f ∧ f ≤ 36 ∧ kdF f = 3 ∧ ctF f = (f : Int) - 27) ∨ (37 ≤ f ∧ f ≤ 45 ∧ kdF f = 4 ∧ ctF f = (f : Int) - 36) := by
  unfold kdF ctF
  repeat' split
  all_goals omega
set_option maxHeartbeats 1000000 in
set_option maxRecDepth 100000 in
theorem kc_vkd {c : Nat} (h : c < 1150) : vkd (kdF (c / 25)) (ctF (c / 25)) ((c % 25 : Nat) - 12) := by
  unfold vkd
  rcases kdF_cases (c / 25) (by omega) with x | x | x | x | x | x <;> omega
def clF (kd : Nat) (ag pw : Int) : Nat := 25 * fnK kd ag + (pw + 12).toNat
set_option maxHeartbeats 1000000 in
set_option maxRecDepth 100000 in
theorem vkd_ok {kd : Nat} {ag pw : Int} (h : vkd kd ag pw) : okA ag pw ∧ kd ≤ 4 := by unfold vkd at h; unfold okA; omega
set_option maxHeartbeats 1000000 in
set_option maxRecDepth 100000 in
theorem fnK_spec {kd : Nat} {ag pw : Int} (h : vkd kd ag pw) : fnK kd ag < 46 ∧ kdF (fnK kd ag) = kd ∧ ctF (fnK kd ag) = ag := by
  unfold vkd at h
  obtain ⟨-, -, h⟩ := h
  rcases h with ⟨rfl, rfl⟩ | ⟨rfl, h⟩ | ⟨rfl, h⟩ | ⟨rfl | rfl, h⟩
  · decide
  · have : fnK 1 ag = ag.toNat := rfl
    rcases kdF_cases ag.toNat (by omega) with x | x | x | x | x | x <;> rw [this] <;> omega
  · have : fnK 2 ag = if ag < 0 then (ag + 19).toNat else (ag + 18).toNat := rfl
    split at this
    · rcases kdF_cases (ag + 19).toNat (by omega) with x | x | x | x | x | x <;> rw [this] <;> omega
    · rcases kdF_cases (ag + 18).toNat (by omega) with x | x | x | x | x | x <;> rw [this] <;> omega
  · have : fnK 3 ag = (ag + 27).toNat := rfl
    rcases kdF_cases (ag + 27).toNat (by omega) with x | x | x | x | x | x <;> rw [this] <;> omega
  · have : fnK 4 ag = (ag + 36).toNat := rfl
    rcases kdF_cases (ag + 36).toNat (by omega) with x | x | x | x | x | x <;> rw [this] <;> omega
set_option maxHeartbeats 1000000 in
set_option maxRecDepth 100000 in
theorem clF_spec {kd : Nat} {ag pw : Int} (h : vkd kd ag pw) : clF kd ag pw < 1150 ∧ kc (clF kd ag pw) = ky kd ag pw := by
  obtain ⟨h1, h2, h3⟩ := fnK_spec h
  have h4 : -12 ≤ pw ∧ pw ≤ 12 := ⟨h.1, h.2.1⟩
  unfold clF kc
  have e1 : (25 * fnK kd ag + (pw + 12).toNat) / 25 = fnK kd ag := by omega
  have e2 : (25 * fnK kd ag + (pw + 12).toNat) % 25 = (pw + 12).toNat := by omega
  rw [e1, e2, h2, h3]
  refine ⟨by omega, ?_⟩
  congr 1; omega
set_option maxHeartbeats 1000000 in
set_option maxRecDepth 100000 in
theorem vk_iff {kd : Nat} {ag pw : Int} (ho : okA ag pw) : vk (ky kd ag pw) ↔ vkd kd ag pw := by
  constructor
  · intro ⟨c, hc, e⟩
    have h1 := kc_vkd hc
    obtain ⟨e1, e2, e3⟩ := ky_inj (kc_ok hc) ho e
    rw [e1, e2, e3] at h1; exact h1
  · intro h
    exact ⟨_, (clF_spec h).1, (clF_spec h).2⟩
set_option maxHeartbeats 1000000 in
set_option maxRecDepth 100000 in
theorem vk_dec {k : Nat} (h : vk k) : vkd (kdK k) (agK k) (pwK k) ∧ k < 10240 := by
  obtain ⟨c, hc, e⟩ := h
  have h1 := kc_vkd hc
  have h2 := kc_ok hc
  subst e
  refine ⟨?_, kc_lt hc⟩
  unfold kc
  rw [kdK_ky h2, agK_ky h2, pwK_ky h2]; exact h1
set_option maxHeartbeats 1000000 in
set_option maxRecDepth 100000 in
theorem vk_of {k : Nat} (h : vkd (kdK k) (agK k) (pwK k)) : vk k := by
  have := (vk_iff (vkd_ok h).1).mpr h
  rw [ky_dec] at this; exact this
