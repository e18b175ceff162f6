def chL (L : Ln) (a : Nat) : Nat := if a < L.1 then L.2 a else 0
def nxF (L : Ln) : Nat → Nat → Nat
  | 0, a => a
  | d + 1, a => if a < L.1 ∧ L.2 a = 32 then nxF L d (a + 1) else a
def nx (L : Ln) (a : Nat) : Nat := nxF L (L.1 - a) a
abbrev isD (c : Nat) : Prop := 48 ≤ c ∧ c ≤ 57
def gdL (L : Ln) : Prop := L.1 ≤ 100 ∧ okL L
set_option maxHeartbeats 1000000 in
set_option maxRecDepth 100000 in
theorem nxF_ge (L : Ln) : ∀ d a, a ≤ nxF L d a := by
  intro d
  induction d with
  | zero => exact fun a => Nat.le_refl a
  | succ d ih =>
    intro a
    unfold nxF
    split
    · have := ih (a + 1); omega
    · exact Nat.le_refl a
set_option maxHeartbeats 1000000 in
set_option maxRecDepth 100000 in
theorem nx_ge (L : Ln) (a : Nat) : a ≤ nx L a := nxF_ge L _ a
set_option maxHeartbeats 1000000 in
set_option maxRecDepth 100000 in
theorem nxF_le (L : Ln) : ∀ d a, a ≤ L.1 → nxF L d a ≤ L.1 := by
  intro d
  induction d with
  | zero => exact fun a h => h
  | succ d ih =>
    intro a h
    unfold nxF
    split
    · rename_i c; exact ih (a + 1) (by omega)
    · exact h
set_option maxHeartbeats 1000000 in
set_option maxRecDepth 100000 in
theorem nx_le {L : Ln} {a : Nat} (h : a ≤ L.1) : nx L a ≤ L.1 := nxF_le L _ a h
set_option maxHeartbeats 1000000 in
set_option maxRecDepth 100000 in
theorem nx_stop {L : Ln} {a : Nat} (h : ¬ (a < L.1 ∧ L.2 a = 32)) : nx L a = a := by
  unfold nx
  cases L.1 - a with
  | zero => rfl
  | succ d => unfold nxF; rw [if_neg h]
set_option maxHeartbeats 1000000 in
set_option maxRecDepth 100000 in
theorem nx_go {L : Ln} {a : Nat} (h : a < L.1) (h2 : L.2 a = 32) : nx L a = nx L (a + 1) := by
  unfold nx
  obtain ⟨d, hd⟩ : ∃ d, L.1 - a = d + 1 := ⟨L.1 - a - 1, by omega⟩
  rw [hd, show L.1 - (a + 1) = d by omega]
  conv => lhs; unfold nxF
  rw [if_pos ⟨h, h2⟩]
set_option maxHeartbeats 1000000 in
set_option maxRecDepth 100000 in
theorem nx_end (L : Ln) {a : Nat} (ha : a ≤ L.1) : ¬ (nx L a < L.1 ∧ L.2 (nx L a) = 32) := by
  obtain ⟨d, hd⟩ : ∃ d, a + d = L.1 := ⟨L.1 - a, by omega⟩
  induction d generalizing a with
  | zero => intro h; have := nx_ge L a; omega
  | succ d ih =>
    by_cases c : L.2 a = 32
    · rw [nx_go (by omega) c]; exact ih (by omega) (by omega)
    · rw [nx_stop (fun h => c h.2)]; exact fun h => c h.2
set_option maxHeartbeats 1000000 in
set_option maxRecDepth 100000 in
theorem nx_nx {L : Ln} {a : Nat} (ha : a ≤ L.1) : nx L (nx L a) = nx L a := nx_stop (nx_end L ha)
set_option maxHeartbeats 1000000 in
set_option maxRecDepth 100000 in
theorem chL_lt {L : Ln} (h : gdL L) (a : Nat) : chL L a < 256 := by
  unfold chL; split
  · rename_i c; exact (h.2 a c).2
  · omega
set_option maxHeartbeats 1000000 in
set_option maxRecDepth 100000 in
theorem chL_in {L : Ln} {a c : Nat} (h : chL L a = c) (hc : c ≠ 0) : a < L.1 := by
  unfold chL at h
  split at h
  · assumption
  · exact absurd h.symm hc
set_option maxHeartbeats 1000000 in
set_option maxRecDepth 100000 in
theorem chL_0 {L : Ln} (h : gdL L) {a : Nat} : chL L a = 0 ↔ L.1 ≤ a := by
  unfold chL
  constructor
  · intro e
    split at e
    · rename_i c; have := (h.2 a c).1; omega
    · omega
  · intro e; rw [if_neg (by omega)]
set_option maxHeartbeats 1000000 in
set_option maxRecDepth 100000 in
theorem isD_in {L : Ln} {a : Nat} (h : isD (chL L a)) : a < L.1 := chL_in (c := chL L a) rfl (by unfold isD at h; omega)
set_option maxHeartbeats 1000000 in
set_option maxRecDepth 100000 in
theorem eq_ch {L : Ln} (h : gdL L) (a : Nat) {c : Nat} (hc : c < 256) : nI (chL L a) = nI c ↔ chL L a = c := nI_inj (by have := chL_lt h a; omega) (by omega)
def digs (L : Ln) : Nat → Nat → Nat → Nat × Nat
  | 0, a, v => (v, a)
  | k + 1, a, v => if isD (chL L a) then digs L k (a + 1) (10 * v + (chL L a - 48)) else (v, a)
set_option maxHeartbeats 1000000 in
set_option maxRecDepth 100000 in
theorem digs_lt (L : Ln) : ∀ k a v, (digs L k a v).1 < (v + 1) * 10 ^ k := by
  intro k
  induction k with
  | zero => intro a v; show v < (v + 1) * 10 ^ 0; omega
  | succ k ih =>
    intro a v
    have hp : 1 ≤ 10 ^ k := Nat.pow_pos (by omega)
    have e : (v + 1) * 10 ^ (k + 1) = (v + 1) * 10 * 10 ^ k := by rw [Nat.pow_succ, Nat.mul_assoc, Nat.mul_comm 10]
    unfold digs
    split
    · rename_i c
      have := ih (a + 1) (10 * v + (chL L a - 48))
      unfold isD at c
      rw [e]
      exact Nat.lt_of_lt_of_le this (Nat.mul_le_mul_right _ (by omega))
    · show v < _
      rw [e]
      calc v < (v + 1) * 10 := by omega
        _ ≤ (v + 1) * 10 * 10 ^ k := Nat.le_mul_of_pos_right _ hp
set_option maxHeartbeats 1000000 in
set_option maxRecDepth 100000 in
theorem digs_le {L : Ln} : ∀ k a v, a ≤ L.1 → a ≤ (digs L k a v).2 ∧ (digs L k a v).2 ≤ L.1 := by
  intro k
  induction k with
  | zero => intro a v h; exact ⟨Nat.le_refl a, h⟩
  | succ k ih =>
    intro a v h
    unfold digs
    split
    · rename_i c
      have := isD_in c
      have := ih (a + 1) (10 * v + (chL L a - 48)) (by omega)
      omega
    · exact ⟨Nat.le_refl a, h⟩
set_option maxHeartbeats 1000000 in
set_option maxRecDepth 100000 in
theorem digs_gt {L : Ln} {k a v : Nat} (h : isD (chL L a)) : a < (digs L (k + 1) a v).2 := by
  have := isD_in h
  unfold digs
  rw [if_pos h]
  have := (digs_le (L := L) k (a + 1) (10 * v + (chL L a - 48)) (by omega)).1
  omega
abbrev Flt := Int32 × Nat
def numR (L : Ln) (le mo a : Nat) : Except Flt (Nat × Nat) :=
  if isD (chL L (nx L a)) then
    (if (digs L 3 (nx L a) 0).1 < le ∨ mo < (digs L 3 (nx L a) 0).1 then .error (-3, nx L a) else .ok (digs L 3 (nx L a) 0))
  else .error (-2, nx L a)
set_option maxHeartbeats 1000000 in
set_option maxRecDepth 100000 in
theorem numR_ok {L : Ln} {le mo a : Nat} {r : Nat × Nat} (ha : a ≤ L.1) (h : numR L le mo a = .ok r) : le ≤ r.1 ∧ r.1 ≤ mo ∧ nx L a < r.2 ∧ r.2 ≤ L.1 := by
  unfold numR at h
  split at h
  · rename_i c
    split at h
    · exact absurd h (by simp)
    · rename_i d
      injection h with h
      subst h
      exact ⟨by omega, by omega, digs_gt c, (digs_le 3 _ 0 (nx_le ha)).2⟩
  · exact absurd h (by simp)
set_option maxHeartbeats 1000000 in
set_option maxRecDepth 100000 in
theorem numR_err {L : Ln} {le mo a : Nat} {e : Flt} (h : numR L le mo a = .error e) : e.1 = -2 ∨ e.1 = -3 := by
  unfold numR at h
  split at h
  · split at h
    · injection h with h; subst h; exact Or.inr rfl
    · exact absurd h (by simp)
  · injection h with h; subst h; exact Or.inl rfl
set_option maxHeartbeats 1000000 in
set_option maxRecDepth 100000 in
theorem uR_at_self {z : RdS} {a : Int32} (h : gR_at z = a) : uR_at z a = z := by rw [← h]; rfl
set_option maxHeartbeats 1000000 in
set_option maxRecDepth 100000 in
theorem uM_at_self {z : MdS} {a : Int32} (h : gM_at z = a) : uM_at z a = z := by rw [← h]; rfl
set_option maxHeartbeats 1000000 in
set_option maxRecDepth 100000 in
theorem cb0 : cb (0 : Int32) = true := by decide
section CL
variable {L : Ln} {zL : LineS}
set_option maxHeartbeats 1000000 in
set_option maxRecDepth 100000 in
theorem c_next44 (g : gdL L) (hC : lC zL L) {a : Nat} {z : RdS} (ha : a ≤ L.1) (h : gR_at z = nI a) : f_X3_next_44 zL z = some (nI (chL L a), z) := by
  have g1 := g.1
  unfold f_X3_next_44
  rw [hC.1, h]
  by_cases c : L.1 ≤ a
  · rw [if_pos ((qI_le (by omega) (by omega)).mpr c), if_pos cb0, (chL_0 g).mpr c]; rfl
  · rw [if_neg (fun e => c ((qI_le (by omega) (by omega)).mp e)), if_pos ((inb_nI (by omega)).mpr (by omega)), nI_nat (by omega), hC.2 a (by omega)]
    have : chL L a = L.2 a := by unfold chL; rw [if_pos (by omega)]
    rw [this, if_pos (cb_nI (g.2 a (by omega)).2)]
set_option maxHeartbeats 1000000 in
set_option maxRecDepth 100000 in
theorem c_next0 (g : gdL L) (hC : lC zL L) : ∀ (d fu a : Nat) (z : RdS), a + d = L.1 → d < fu → gR_at z = nI a → f_X3_next_0 zL fu z = some (nI (chL L (nx L a)), uR_at z (nI (nx L a))) := by
  have g1 := g.1
  intro d
  induction d with
  | zero =>
    intro fu a z ha hf h
    obtain ⟨fu, rfl⟩ : ∃ f, fu = f + 1 := ⟨fu - 1, by omega⟩
    have hx : nx L a = a := nx_stop (L := L) (a := a) (fun e => by have := e.1; omega)
    rw [hx, f_X3_next_0, hC.1, h, if_pos ((qI_le (by omega) (by omega)).mpr (by omega)), c_next44 g hC (by omega) h, uR_at_self h]
  | succ d ih =>
    intro fu a z ha hf h
    obtain ⟨fu, rfl⟩ : ∃ f, fu = f + 1 := ⟨fu - 1, by omega⟩
    rw [f_X3_next_0, hC.1, h, if_neg (fun e => by have := (qI_le (by omega) (by omega)).mp e; omega), if_pos ((inb_nI (by omega)).mpr (by omega)), nI_nat (by omega), hC.2 a (by omega)]
    have e32 : nI (L.2 a) = 32 ↔ L.2 a = 32 := nI_inj (m := 32) (by have := (g.2 a (by omega)).2; omega) (by omega)
    by_cases c : L.2 a = 32
    · rw [if_neg (fun e => e (e32.mpr c)), nI_add1, nx_go (by omega) c]
      exact ih fu (a + 1) (uR_at z (nI (a + 1))) (by omega) (by omega) rfl
    · rw [if_pos (fun e => c (e32.mp e)), nx_stop (fun e => c e.2), c_next44 g hC (by omega) h, uR_at_self h]
set_option maxHeartbeats 1000000 in
set_option maxRecDepth 100000 in
theorem c_next (g : gdL L) (hC : lC zL L) {a : Nat} {z : RdS} (ha : a ≤ L.1) (h : gR_at z = nI a) : f_X3_next zL z = some (nI (chL L (nx L a)), uR_at z (nI (nx L a))) := by
  have g1 := g.1
  exact c_next0 g hC (L.1 - a) fuel a z (by omega) (by rw [fuel_eq]; omega) h
set_option maxHeartbeats 1000000 in
set_option maxRecDepth 100000 in
theorem c_takes (g : gdL L) (hC : lC zL L) {a : Nat} {z : RdS} (ha : a ≤ L.1) (h : gR_at z = nI a) {c : Nat} (hc : c < 256) : f_X3_takes zL z (nI c) = (if chL L (nx L a) = c then some (1, uR_at z (nI (nx L a + 1))) else some (0, uR_at z (nI (nx L a)))) := by
  unfold f_X3_takes
  rw [c_next g hC ha h, Option.bind_some]
  by_cases x : chL L (nx L a) = c
  · rw [if_pos x, if_pos ((eq_ch g _ hc).mpr x), ← nI_add1]; rfl
  · rw [if_neg x, if_neg (fun e => x ((eq_ch g _ hc).mp e))]
set_option maxHeartbeats 1000000 in
set_option maxRecDepth 100000 in
theorem c_digit {c : Nat} (hc : c < 256) : f_X3_isDigit (nI c) = some (if isD c then 1 else 0) ∧ f_X7_isDigit (nI c) = some (if isD c then 1 else 0) := by
  have : ∀ c : Fin 256, f_X3_isDigit (nI c.val) = some (if isD c.val then 1 else 0) ∧ f_X7_isDigit (nI c.val) = some (if isD c.val then 1 else 0) := by decide +kernel
  exact this ⟨c, hc⟩
set_option maxHeartbeats 1000000 in
set_option maxRecDepth 100000 in
theorem c_charAt (g : gdL L) (hC : lC zL L) {a : Nat} (ha : a ≤ L.1) : f_X1_charAt zL (nI a) = some (nI (chL L a)) := by
  have g1 := g.1
  unfold f_X1_charAt
  rw [if_neg (fun e => by have := (qI_lt (m := 0) (by omega) (by omega)).mp e; omega), hC.1]
  by_cases c : L.1 ≤ a
  · rw [if_pos ((qI_le (by omega) (by omega)).mpr c), if_pos cb0, (chL_0 g).mpr c]; rfl
  · rw [if_neg (fun e => c ((qI_le (by omega) (by omega)).mp e)), if_pos ((inb_nI (by omega)).mpr (by omega)), nI_nat (by omega), hC.2 a (by omega)]
    have : chL L a = L.2 a := by unfold chL; rw [if_pos (by omega)]
    rw [this, if_pos (cb_nI (g.2 a (by omega)).2)]
set_option maxHeartbeats 1000000 in
set_option maxRecDepth 100000 in
theorem c_num34 (g : gdL L) (hC : lC zL L) (x1 x2 x3 : Int32) : ∀ (r fu a v k : Nat) (z : RdS), k + r = 3 → r < fu → a ≤ L.1 → v < 10 ^ k → gR_at z = nI a → f_X3_readNumber_34 zL fu z x1 x2 x3 (nI v) (nI k) = f_X3_readNumber_95 zL (uR_at z (nI (digs L r a v).2)) x1 x2 x3 (nI (digs L r a v).1) := by
  have g1 := g.1
  intro r
  induction r with
  | zero =>
    intro fu a v k z hk hf ha hv h
    obtain ⟨fu, rfl⟩ : ∃ f, fu = f + 1 := ⟨fu - 1, by omega⟩
    have : k = 3 := by omega
    subst this
    rw [f_X3_readNumber_34, if_pos (show (3 : Int32) ≤ nI 3 by decide)]
    show _ = f_X3_readNumber_95 zL (uR_at z (nI a)) x1 x2 x3 (nI v)
    rw [uR_at_self h]
  | succ r ih =>
    intro fu a v k z hk hf ha hv h
    obtain ⟨fu, rfl⟩ : ∃ f, fu = f + 1 := ⟨fu - 1, by omega⟩
    have hv' : v < 1000 := Nat.lt_of_lt_of_le hv (by have : 10 ^ k ≤ 10 ^ 3 := Nat.pow_le_pow_right (by omega) (by omega)
                                                     exact this)
    have hch := chL_lt g a
    rw [f_X3_readNumber_34, if_neg (show ¬ (3 : Int32) ≤ nI k from fun e => by have := (qI_le (n := 3) (by omega) (by omega)).mp e; omega), h, c_charAt g hC ha]
    simp only [Option.bind_some]
    rw [(c_digit hch).1]
    simp only [Option.bind_some]
    unfold digs
    by_cases c : isD (chL L a)
    · rw [if_pos c, if_pos c, if_neg (show ¬ (1 : Int32) = 0 by decide)]
      have hin := isD_in c
      unfold isD at c
      have e1 : (10 : Int32) * nI v + (nI (chL L a) - 48) = nI (10 * v + (chL L a - 48)) := by
        have h1 : (10 : Int32) * nI v = nI (10 * v) := nI_mul 10 v
        have h2 : nI (chL L a) - 48 = nI (chL L a - 48) := nI_sub c.1
        rw [h1, h2, qI_add]
      rw [e1, nI_add1, nI_add1]
      have hvk : 10 * v + (chL L a - 48) < 10 ^ (k + 1) := by rw [Nat.pow_succ]; omega
      exact ih fu (a + 1) _ (k + 1) (uR_at z (nI (a + 1))) (by omega) (by omega) (by omega) hvk rfl
    · rw [if_neg c, if_neg c, if_pos rfl, uR_at_self h]
set_option maxHeartbeats 1000000 in
set_option maxRecDepth 100000 in
theorem c_num (g : gdL L) (hC : lC zL L) {a le mo : Nat} {z : RdS} (ha : a ≤ L.1) (h : gR_at z = nI a) (hle : le < 1000) (hmo : mo < 1000) :
    (∀ r, numR L le mo a = .ok r → f_X3_readNumber zL z (nI le) (nI mo) = some (nI r.1, uR_at z (nI r.2))) ∧ (∀ e, numR L le mo a = .error e → ∃ x, f_X3_readNumber zL z (nI le) (nI mo) = some (-1, uR_place (uR_fault (uR_at z x) e.1) (nI e.2))) := by
  have hch := chL_lt g (nx L a)
  have hxa := nx_le ha
  have hd := digs_lt L 3 (nx L a) 0
  have hd' : (digs L 3 (nx L a) 0).1 < 1000 := by have : (0 + 1) * 10 ^ 3 = 1000 := by decide
                                                  omega
  unfold f_X3_readNumber f_X3_refuse numR
  rw [c_next g hC ha h]
  simp only [Option.bind_some]
  rw [(c_digit hch).1]
  simp only [Option.bind_some]
  by_cases c : isD (chL L (nx L a))
  · simp only [if_pos c, if_pos (show ¬ (1 : Int32) = 0 by decide)]
    have e34 := c_num34 g hC (nI le) (nI mo) (nI (nx L a)) 3 fuel (nx L a) 0 0 (uR_at z (nI (nx L a))) (by omega) (by rw [fuel_eq]; omega) hxa (by omega) rfl
    have e34' : f_X3_readNumber_34 zL fuel (uR_at z (nI (nx L a))) (nI le) (nI mo) (gR_at (uR_at z (nI (nx L a)))) 0 0 = f_X3_readNumber_95 zL (uR_at z (nI (digs L 3 (nx L a) 0).2)) (nI le) (nI mo) (nI (nx L a)) (nI (digs L 3 (nx L a) 0).1) := e34
    rw [e34']
    unfold f_X3_readNumber_95 f_X3_readNumber_107 f_X3_refuse
    simp only [Option.bind_some]
    have c1 : nI (digs L 3 (nx L a) 0).1 < nI le ↔ (digs L 3 (nx L a) 0).1 < le := qI_lt (by omega) (by omega)
    have c2 : nI (digs L 3 (nx L a) 0).1 ≤ nI mo ↔ (digs L 3 (nx L a) 0).1 ≤ mo := qI_le (by omega) (by omega)
    by_cases d1 : (digs L 3 (nx L a) 0).1 < le
    · rw [if_pos (c1.mpr d1), if_pos (Or.inl d1)]
      refine ⟨fun r hr => by simp at hr, fun e he => ?_⟩
      injection he with he; subst he
      exact ⟨_, rfl⟩
    · rw [if_neg (fun e => d1 (c1.mp e))]
      by_cases d2 : (digs L 3 (nx L a) 0).1 ≤ mo
      · rw [if_pos (c2.mpr d2), if_neg (by omega)]
        refine ⟨fun r hr => ?_, fun e he => by simp at he⟩
        injection hr with hr; subst hr
        rfl
      · rw [if_neg (fun e => d2 (c2.mp e)), if_pos (by omega)]
        refine ⟨fun r hr => by simp at hr, fun e he => ?_⟩
        injection he with he; subst he
        exact ⟨_, rfl⟩
  · simp only [if_neg c, if_neg (show ¬ ¬ (0 : Int32) = 0 by decide)]
    refine ⟨fun r hr => by simp at hr, fun e he => ?_⟩
    injection he with he; subst he
    exact ⟨_, rfl⟩
end CL
abbrev bl (L : Ln) (a : Nat) : Prop := chL L (nx L a) = 45
def sgA (L : Ln) (a : Nat) : Nat := if bl L a then nx L a + 1 else nx L a
def sgV (L : Ln) (a : Nat) (v : Nat) : Int := if bl L a then -(v : Int) else v
def pCoef (L : Ln) (a : Nat) : Except Flt (Nat × Nat × Nat) :=
  if isD (chL L (nx L a)) then
    (if chL L (nx L (digs L 3 (nx L a) 0).2) = 47 then
      (match numR L 1 999 (nx L (digs L 3 (nx L a) 0).2 + 1) with
      | .error e => .error e
      | .ok r => .ok (r.2, (digs L 3 (nx L a) 0).1, r.1))
    else .ok (nx L (digs L 3 (nx L a) 0).2, (digs L 3 (nx L a) 0).1, 1))
  else .ok (nx L a, 1, 1)
def pPow (L : Ln) (a : Nat) : Except Flt (Nat × Int) :=
  if chL L (nx L a) = 120 then
    (if chL L (nx L (nx L a + 1)) = 94 then
      (match numR L 0 12 (sgA L (nx L (nx L a + 1) + 1)) with
      | .error e => .error e
      | .ok r => .ok (r.2, sgV L (nx L (nx L a + 1) + 1) r.1))
    else .ok (nx L (nx L a + 1), 1))
  else .ok (nx L a, 0)
def pCnt (L : Ln) (a : Nat) : Except Flt (Nat × Nat) := if isD (chL L (nx L a)) then numR L 0 9 (nx L a) else .ok (1, nx L a)
def pMul (L : Ln) (kd a : Nat) : Except Flt (Nat × Nat × Int) :=
  if chL L (nx L a) = 40 then
    (match pCnt L (sgA L (nx L a + 1)) with
    | .error e => .error e
    | .ok r => if chL L (nx L r.2) = 120 then (if chL L (nx L (nx L r.2 + 1)) = 41 then .ok (nx L (nx L r.2 + 1) + 1, kd, sgV L (nx L a + 1) r.1) else .error (-2, nx L (nx L r.2 + 1))) else .error (-2, nx L r.2))
  else .error (-2, nx L a)
def pLog (L : Ln) (a : Nat) : Except Flt (Nat × Nat × Int) :=
  if chL L (nx L a) = 94 then
    (match numR L 0 9 (nx L a + 1) with
    | .error e => .error e
    | .ok r => .ok (r.2, 1, (r.1 : Int)))
  else .ok (nx L a, 1, 1)
def pFun (L : Ln) (a : Nat) : Except Flt (Nat × Nat × Int) :=
  if chL L (nx L a) = 108 then pLog L (nx L a + 1)
  else if chL L (nx L a) = 101 then pMul L 2 (nx L a + 1)
  else if chL L (nx L a) = 115 then pMul L 3 (nx L a + 1)
  else if chL L (nx L a) = 99 then pMul L 4 (nx L a + 1)
  else .ok (nx L a, 0, 0)
def pTerm (L : Ln) (a : Nat) : Except Flt (Nat × (Nat × Nat) × Int × Nat × Int) :=
  match pCoef L a with
  | .error e => .error e
  | .ok c => match pPow L c.1 with
    | .error e => .error e
    | .ok p => match pFun L p.1 with
      | .error e => .error e
      | .ok f => if nx L a < f.1 then .ok (f.1, c.2, p.2, f.2.1, f.2.2) else .error (-2, f.1)
abbrev mkR (a f p : Int32) (t b : Int64) (w k g : Int32) : RdS := (a, f, p, t, b, w, k, g)
def stg (L : Ln) {α : Type} (r : Except Flt α) (o : Option (Int32 × RdS)) (ok : α → RdS) : Prop :=
  (∀ x, r = .ok x → o = some (1, ok x)) ∧ (∀ e, r = .error e → ∃ z, o = some (0, z) ∧ gR_fault z = e.1 ∧ gR_place z = nI e.2)
set_option maxHeartbeats 1000000 in
set_option maxRecDepth 100000 in
theorem chIn {L : Ln} {a c : Nat} (h : chL L (nx L a) = c) (hc : c ≠ 0) : nx L a + 1 ≤ L.1 := chL_in h hc
section CP
variable {L : Ln} {zL : LineS}
set_option maxHeartbeats 1000000 in
set_option maxRecDepth 100000 in
theorem sgA_le {a : Nat} (ha : a ≤ L.1) : sgA L a ≤ L.1 := by
  unfold sgA
  split
  · rename_i c; exact chIn c (by omega)
  · exact nx_le ha
set_option maxHeartbeats 1000000 in
set_option maxRecDepth 100000 in
theorem nI_m1 {v : Nat} (h : v < 1000) : ¬ nI v = (-1 : Int32) := by
  intro e
  have : (nI v).toInt = ((-1 : Int32)).toInt := by rw [e]
  rw [qI_toInt (by omega)] at this
  have h2 : ((-1 : Int32)).toInt = -1 := by decide
  omega
set_option maxHeartbeats 1000000 in
set_option maxRecDepth 100000 in
theorem c_coef (g : gdL L) (hC : lC zL L) {a : Nat} (ha : a ≤ L.1) (f p : Int32) (w k h : Int32) : stg L (pCoef L a) (f_X3_readCoefficient zL (mkR (nI a) f p 1 1 w k h)) (fun c => mkR (nI c.1) f p (I64 (c.2.1 : Int)) (I64 (c.2.2 : Int)) w k h) := by
  have hxa := nx_le ha
  have hch := chL_lt g (nx L a)
  unfold stg f_X3_readCoefficient pCoef
  rw [c_next g hC ha (show gR_at (mkR (nI a) f p 1 1 w k h) = nI a from rfl)]
  simp only [Option.bind_some]
  rw [(c_digit hch).1]
  simp only [Option.bind_some]
  by_cases c : isD (chL L (nx L a))
  · simp only [if_pos c, if_pos (show ¬ (1 : Int32) = 0 by decide)]
    have hd := digs_lt L 3 (nx L a) 0
    have hd' : (digs L 3 (nx L a) 0).1 < 1000 := by have : (0 + 1) * 10 ^ 3 = 1000 := by decide
                                                    omega
    have hd2 := (digs_le (L := L) 3 (nx L a) 0 hxa).2
    have hok : numR L 0 999 (nx L a) = .ok (digs L 3 (nx L a) 0) := by
      unfold numR; rw [nx_nx ha, if_pos c, if_neg (by omega)]
    have e1 := (c_num g hC (z := uR_at (mkR (nI a) f p 1 1 w k h) (nI (nx L a))) hxa rfl (show (0 : Nat) < 1000 by omega) (show (999 : Nat) < 1000 by omega)).1 _ hok
    have e1' : f_X3_readNumber zL (uR_at (mkR (nI a) f p 1 1 w k h) (nI (nx L a))) 0 999 = some (nI (digs L 3 (nx L a) 0).1, mkR (nI (digs L 3 (nx L a) 0).2) f p 1 1 w k h) := e1
    rw [e1']
    simp only [Option.bind_some]
    rw [toInt64_n (by omega)]
    generalize digs L 3 (nx L a) 0 = D at *
    have e2 := c_takes g hC (z := uR_top (mkR (nI D.2) f p 1 1 w k h) (I64 (D.1 : Int))) hd2 rfl (c := 47) (by omega)
    have e2' : f_X3_takes zL (uR_top (mkR (nI D.2) f p 1 1 w k h) (I64 (D.1 : Int))) 47 = _ := e2
    rw [e2']
    by_cases c2 : chL L (nx L D.2) = 47
    · simp only [if_pos c2, Option.bind_some, if_neg (show ¬ (1 : Int32) = 0 by decide)]
      have hn := c_num g hC (z := mkR (nI (nx L D.2 + 1)) f p (I64 (D.1 : Int)) 1 w k h) (chIn c2 (by omega)) rfl (show (1 : Nat) < 1000 by omega) (show (999 : Nat) < 1000 by omega)
      cases hnr : numR L 1 999 (nx L D.2 + 1) with
      | error e =>
        obtain ⟨x, hx⟩ := hn.2 e hnr
        have hx' : f_X3_readNumber zL (uR_at (uR_top (mkR (nI D.2) f p 1 1 w k h) (I64 (D.1 : Int))) (nI (nx L D.2 + 1))) 1 999 = _ := hx
        rw [hx']
        refine ⟨fun x hx => by simp at hx, fun e' he => ?_⟩
        injection he with he; subst he
        simp only [Option.bind_some]
        rw [if_neg (by simp)]
        exact ⟨_, rfl, rfl, rfl⟩
      | ok r =>
        have hx := hn.1 r hnr
        have hx' : f_X3_readNumber zL (uR_at (uR_top (mkR (nI D.2) f p 1 1 w k h) (I64 (D.1 : Int))) (nI (nx L D.2 + 1))) 1 999 = _ := hx
        have hr := numR_ok (chIn c2 (by omega)) hnr
        rw [hx']
        refine ⟨fun x hx => ?_, fun e' he => by simp at he⟩
        injection hx with hx; subst hx
        simp only [Option.bind_some]
        rw [if_pos (nI_m1 (by omega)), toInt64_n (by omega)]
        rfl
    · simp only [if_neg c2, Option.bind_some, if_pos trivial]
      refine ⟨fun x hx => ?_, fun e' he => by simp at he⟩
      injection hx with hx; subst hx
      rfl
  · simp only [if_neg c, if_neg (show ¬ ¬ (0 : Int32) = 0 by decide)]
    refine ⟨fun x hx => ?_, fun e he => by simp at he⟩
    injection hx with hx; subst hx
    rfl
set_option maxHeartbeats 1000000 in
set_option maxRecDepth 100000 in
theorem c_sign (g : gdL L) (hC : lC zL L) {a : Nat} {z : RdS} (ha : a ≤ L.1) (h : gR_at z = nI a) : f_X3_takes zL z 45 = some ((if bl L a then 1 else 0), uR_at z (nI (sgA L a))) := by
  have e := c_takes g hC ha h (c := 45) (by omega)
  have e' : f_X3_takes zL z 45 = _ := e
  rw [e']
  unfold sgA
  by_cases c : bl L a
  · have c' : chL L (nx L a) = 45 := c
    rw [if_pos c, if_pos c, if_pos c']
  · have c' : ¬ chL L (nx L a) = 45 := c
    rw [if_neg c, if_neg c, if_neg c']
set_option maxHeartbeats 1000000 in
set_option maxRecDepth 100000 in
theorem c_pow (g : gdL L) (hC : lC zL L) {a : Nat} (ha : a ≤ L.1) (f p : Int32) (t b : Int64) (k h : Int32) : stg L (pPow L a) (f_X3_readPower zL (mkR (nI a) f p t b 0 k h)) (fun c => mkR (nI c.1) f p t b (I32 c.2) k h) := by
  unfold stg f_X3_readPower pPow
  have e1 := c_takes g hC (z := mkR (nI a) f p t b 0 k h) ha rfl (c := 120) (by omega)
  have e1' : f_X3_takes zL (mkR (nI a) f p t b 0 k h) 120 = _ := e1
  rw [e1']
  by_cases c1 : chL L (nx L a) = 120
  · have l1 := chIn c1 (by omega)
    simp only [if_pos c1, Option.bind_some, if_pos (show ¬ (1 : Int32) = 0 by decide)]
    have e2 := c_takes g hC (z := mkR (nI (nx L a + 1)) f p t b 1 k h) l1 rfl (c := 94) (by omega)
    have e2' : f_X3_takes zL (uR_power (uR_at (mkR (nI a) f p t b 0 k h) (nI (nx L a + 1))) 1) 94 = _ := e2
    rw [e2']
    by_cases c2 : chL L (nx L (nx L a + 1)) = 94
    · have l2 := chIn c2 (by omega)
      simp only [if_pos c2, Option.bind_some, if_neg (show ¬ (1 : Int32) = 0 by decide)]
      have e3 := c_sign g hC (z := mkR (nI (nx L (nx L a + 1) + 1)) f p t b 1 k h) l2 rfl
      have e3' : f_X3_takes zL (uR_at (mkR (nI (nx L a + 1)) f p t b 1 k h) (nI (nx L (nx L a + 1) + 1))) 45 = _ := e3
      rw [e3']
      simp only [Option.bind_some]
      generalize nx L (nx L a + 1) + 1 = a2 at *
      have l3 := sgA_le l2
      have hn := c_num g hC (z := mkR (nI (sgA L a2)) f p t b 1 k h) l3 rfl (show (0 : Nat) < 1000 by omega) (show (12 : Nat) < 1000 by omega)
      cases hnr : numR L 0 12 (sgA L a2) with
      | error e =>
        obtain ⟨x, hx⟩ := hn.2 e hnr
        have hx' : f_X3_readNumber zL (uR_at (mkR (nI a2) f p t b 1 k h) (nI (sgA L a2))) 0 12 = _ := hx
        rw [hx']
        refine ⟨fun x hx => by simp at hx, fun e' he => ?_⟩
        injection he with he; subst he
        simp only [Option.bind_some]
        rw [if_neg (by simp)]
        exact ⟨_, rfl, rfl, rfl⟩
      | ok r =>
        have hx := hn.1 r hnr
        have hx' : f_X3_readNumber zL (uR_at (mkR (nI a2) f p t b 1 k h) (nI (sgA L a2))) 0 12 = _ := hx
        have hr := numR_ok l3 hnr
        rw [hx']
        refine ⟨fun x hx => ?_, fun e' he => by simp at he⟩
        injection hx with hx; subst hx
        simp only [Option.bind_some]
        rw [if_pos (nI_m1 (by omega))]
        unfold f_X3_readPower_58 sgV
        by_cases c3 : bl L a2
        · rw [if_pos c3, if_neg (show ¬ (1 : Int32) = 0 by decide), if_pos c3, ← I32_nI r.1, I32_neg]; rfl
        · rw [if_neg c3, if_pos rfl, if_neg c3, I32_nI r.1]; rfl
    · simp only [if_neg c2, Option.bind_some, if_pos trivial]
      refine ⟨fun x hx => ?_, fun e' he => by simp at he⟩
      injection hx with hx; subst hx
      rfl
  · simp only [if_neg c1, Option.bind_some, if_neg (show ¬ ¬ (0 : Int32) = 0 by decide)]
    refine ⟨fun x hx => ?_, fun e he => by simp at he⟩
    injection hx with hx; subst hx
    rfl
set_option maxHeartbeats 1000000 in
set_option maxRecDepth 100000 in
theorem c_expect (g : gdL L) (hC : lC zL L) {a : Nat} {z : RdS} (ha : a ≤ L.1) (h : gR_at z = nI a) {c : Nat} (hc : c < 256) :
    (chL L (nx L a) = c → f_X3_expect zL z (nI c) = some (1, uR_at z (nI (nx L a + 1)))) ∧ (¬ chL L (nx L a) = c → ∃ z', f_X3_expect zL z (nI c) = some (0, z') ∧ gR_fault z' = -2 ∧ gR_place z' = nI (nx L a)) := by
  unfold f_X3_expect f_X3_expect_21 f_X3_refuse
  rw [c_takes g hC ha h hc]
  refine ⟨fun x => ?_, fun x => ?_⟩
  · rw [if_pos x, Option.bind_some, if_pos (show ¬ (1 : Int32) = 0 by decide)]
  · rw [if_neg x, Option.bind_some, if_neg (by simp)]
    exact ⟨_, rfl, rfl, rfl⟩
set_option maxHeartbeats 1000000 in
set_option maxRecDepth 100000 in
theorem c_mult (g : gdL L) (hC : lC zL L) {a : Nat} (ha : a ≤ L.1) (f p : Int32) (t b : Int64) (w k : Int32) : stg L (pCnt L (sgA L a)) (f_X3_readMultiple zL (mkR (nI a) f p t b w k 0)) (fun r => mkR (nI r.2) f p t b w k (I32 (sgV L a r.1))) := by
  unfold stg f_X3_readMultiple pCnt
  have l1 := sgA_le ha
  have l2 := nx_le l1
  rw [c_sign g hC (z := mkR (nI a) f p t b w k 0) ha rfl]
  simp only [Option.bind_some]
  have e2 := c_next g hC (z := uR_at (mkR (nI a) f p t b w k 0) (nI (sgA L a))) l1 rfl
  rw [e2]
  simp only [Option.bind_some]
  rw [(c_digit (chL_lt g _)).1]
  simp only [Option.bind_some]
  have fin : ∀ v a', f_X3_readMultiple_34 zL (mkR (nI a') f p t b w k 0) (if bl L a then 1 else 0) (nI v) = some (1, mkR (nI a') f p t b w k (I32 (sgV L a v))) := by
    intro v a'
    unfold f_X3_readMultiple_34 f_X3_readMultiple_45 sgV
    by_cases c3 : bl L a
    · rw [if_pos c3, if_neg (show ¬ (1 : Int32) = 0 by decide), if_pos c3, ← I32_nI v, I32_neg]; rfl
    · rw [if_neg c3, if_pos rfl, if_neg c3, I32_nI v]; rfl
  by_cases c : isD (chL L (nx L (sgA L a)))
  · simp only [if_pos c, if_neg (show ¬ (1 : Int32) = 0 by decide)]
    have hn := c_num g hC (z := mkR (nI (nx L (sgA L a))) f p t b w k 0) l2 rfl (show (0 : Nat) < 1000 by omega) (show (9 : Nat) < 1000 by omega)
    cases hnr : numR L 0 9 (nx L (sgA L a)) with
    | error e =>
      obtain ⟨x, hx⟩ := hn.2 e hnr
      have hx' : f_X3_readNumber zL (uR_at (uR_at (mkR (nI a) f p t b w k 0) (nI (sgA L a))) (nI (nx L (sgA L a)))) 0 9 = _ := hx
      rw [hx']
      refine ⟨fun x hx => by simp at hx, fun e' he => ?_⟩
      injection he with he; subst he
      simp only [Option.bind_some]
      rw [if_neg (by simp)]
      exact ⟨_, rfl, rfl, rfl⟩
    | ok r =>
      have hx := hn.1 r hnr
      have hx' : f_X3_readNumber zL (uR_at (uR_at (mkR (nI a) f p t b w k 0) (nI (sgA L a))) (nI (nx L (sgA L a)))) 0 9 = _ := hx
      have hr := numR_ok l2 hnr
      rw [hx']
      refine ⟨fun x hx => ?_, fun e' he => by simp at he⟩
      injection hx with hx; subst hx
      simp only [Option.bind_some]
      rw [if_pos (nI_m1 (by omega))]
      exact fin _ _
  · simp only [if_neg c, if_pos trivial]
    refine ⟨fun x hx => ?_, fun e he => by simp at he⟩
    injection hx with hx; subst hx
    exact fin 1 _
set_option maxHeartbeats 1000000 in
set_option maxRecDepth 100000 in
theorem pCnt_ok {a : Nat} {r : Nat × Nat} (ha : a ≤ L.1) (h : pCnt L a = .ok r) : r.1 ≤ 9 ∧ nx L a ≤ r.2 ∧ r.2 ≤ L.1 := by
  unfold pCnt at h
  split at h
  · have := numR_ok (nx_le ha) h
    have := nx_ge L (nx L a)
    omega
  · injection h with h; subst h
    exact ⟨by omega, Nat.le_refl _, nx_le ha⟩
set_option maxHeartbeats 1000000 in
set_option maxRecDepth 100000 in
theorem c_f72 (g : gdL L) (hC : lC zL L) {a : Nat} (ha : a ≤ L.1) (f p : Int32) (t b : Int64) (w : Int32) (kd : Nat) : stg L (pMul L kd a) (f_X3_readFunction_72 zL (mkR (nI a) f p t b w (nI kd) 0)) (fun c => mkR (nI c.1) f p t b w (nI c.2.1) (I32 c.2.2)) := by
  unfold stg f_X3_readFunction_72 pMul
  have e1 := c_expect g hC (z := mkR (nI a) f p t b w (nI kd) 0) ha rfl (c := 40) (by omega)
  by_cases c1 : chL L (nx L a) = 40
  · have l1 := chIn c1 (by omega)
    have x1 : f_X3_expect zL (mkR (nI a) f p t b w (nI kd) 0) 40 = _ := e1.1 c1
    rw [x1]
    simp only [if_pos c1, Option.bind_some, if_neg (show ¬ (1 : Int32) = 0 by decide)]
    have e2 := c_mult g hC l1 f p t b w (nI kd)
    have e2' : f_X3_readMultiple zL (uR_at (mkR (nI a) f p t b w (nI kd) 0) (nI (nx L a + 1))) = f_X3_readMultiple zL (mkR (nI (nx L a + 1)) f p t b w (nI kd) 0) := rfl
    rw [e2']
    cases hr : pCnt L (sgA L (nx L a + 1)) with
    | error e =>
      obtain ⟨z', q1, q2, q3⟩ := e2.2 e hr
      rw [q1]
      refine ⟨fun x hx => by simp at hx, fun e' he => ?_⟩
      injection he with he; subst he
      exact ⟨z', by simp, q2, q3⟩
    | ok r =>
      have hb := pCnt_ok (sgA_le l1) hr
      rw [e2.1 r hr]
      simp only [Option.bind_some, if_neg (show ¬ (1 : Int32) = 0 by decide)]
      have e3 := c_expect g hC (z := mkR (nI r.2) f p t b w (nI kd) (I32 (sgV L (nx L a + 1) r.1))) hb.2.2 rfl (c := 120) (by omega)
      by_cases c2 : chL L (nx L r.2) = 120
      · have l2 := chIn c2 (by omega)
        have x2 : f_X3_expect zL (mkR (nI r.2) f p t b w (nI kd) (I32 (sgV L (nx L a + 1) r.1))) 120 = _ := e3.1 c2
        rw [x2]
        simp only [if_pos c2, Option.bind_some, if_neg (show ¬ (1 : Int32) = 0 by decide)]
        have e4 := c_expect g hC (z := mkR (nI (nx L r.2 + 1)) f p t b w (nI kd) (I32 (sgV L (nx L a + 1) r.1))) l2 rfl (c := 41) (by omega)
        by_cases c3 : chL L (nx L (nx L r.2 + 1)) = 41
        · have x3 : f_X3_expect zL (uR_at (mkR (nI r.2) f p t b w (nI kd) (I32 (sgV L (nx L a + 1) r.1))) (nI (nx L r.2 + 1))) 41 = _ := e4.1 c3
          rw [x3]
          simp only [if_pos c3, Option.bind_some, if_neg (show ¬ (1 : Int32) = 0 by decide)]
          refine ⟨fun x hx => ?_, fun e he => by simp at he⟩
          injection hx with hx; subst hx
          rfl
        · obtain ⟨z', q1, q2, q3⟩ := e4.2 c3
          have x3 : f_X3_expect zL (uR_at (mkR (nI r.2) f p t b w (nI kd) (I32 (sgV L (nx L a + 1) r.1))) (nI (nx L r.2 + 1))) 41 = _ := q1
          rw [x3]
          simp only [if_neg c3, Option.bind_some, if_pos trivial]
          refine ⟨fun x hx => by simp at hx, fun e he => ?_⟩
          injection he with he; subst he
          exact ⟨z', rfl, q2, q3⟩
      · obtain ⟨z', q1, q2, q3⟩ := e3.2 c2
        have x2 : f_X3_expect zL (mkR (nI r.2) f p t b w (nI kd) (I32 (sgV L (nx L a + 1) r.1))) 120 = _ := q1
        rw [x2]
        simp only [if_neg c2, Option.bind_some, if_pos trivial]
        refine ⟨fun x hx => by simp at hx, fun e he => ?_⟩
        injection he with he; subst he
        exact ⟨z', rfl, q2, q3⟩
  · obtain ⟨z', q1, q2, q3⟩ := e1.2 c1
    have x1 : f_X3_expect zL (mkR (nI a) f p t b w (nI kd) 0) 40 = _ := q1
    rw [x1]
    simp only [if_neg c1, Option.bind_some, if_pos trivial]
    refine ⟨fun x hx => by simp at hx, fun e he => ?_⟩
    injection he with he; subst he
    exact ⟨z', rfl, q2, q3⟩
set_option maxHeartbeats 1000000 in
set_option maxRecDepth 100000 in
theorem c_log (g : gdL L) (hC : lC zL L) {a : Nat} (ha : a ≤ L.1) (f p : Int32) (t b : Int64) (w : Int32) : stg L (pLog L a) (f_X3_readLogPower zL (mkR (nI a) f p t b w 1 0)) (fun c => mkR (nI c.1) f p t b w (nI c.2.1) (I32 c.2.2)) := by
  unfold stg f_X3_readLogPower pLog
  have e1 := c_takes g hC (z := mkR (nI a) f p t b w 1 1) ha rfl (c := 94) (by omega)
  have e1' : f_X3_takes zL (uR_arg (mkR (nI a) f p t b w 1 0) 1) 94 = _ := e1
  rw [e1']
  by_cases c1 : chL L (nx L a) = 94
  · have l1 := chIn c1 (by omega)
    simp only [if_pos c1, Option.bind_some, if_neg (show ¬ (1 : Int32) = 0 by decide)]
    have hn := c_num g hC (z := mkR (nI (nx L a + 1)) f p t b w 1 1) l1 rfl (show (0 : Nat) < 1000 by omega) (show (9 : Nat) < 1000 by omega)
    cases hnr : numR L 0 9 (nx L a + 1) with
    | error e =>
      obtain ⟨x, hx⟩ := hn.2 e hnr
      have hx' : f_X3_readNumber zL (uR_at (mkR (nI a) f p t b w 1 1) (nI (nx L a + 1))) 0 9 = _ := hx
      rw [hx']
      refine ⟨fun x hx => by simp at hx, fun e' he => ?_⟩
      injection he with he; subst he
      exact ⟨_, rfl, rfl, rfl⟩
    | ok r =>
      have hx := hn.1 r hnr
      have hx' : f_X3_readNumber zL (uR_at (mkR (nI a) f p t b w 1 1) (nI (nx L a + 1))) 0 9 = _ := hx
      have hr := numR_ok l1 hnr
      rw [hx']
      refine ⟨fun x hx => ?_, fun e' he => by simp at he⟩
      injection hx with hx; subst hx
      simp only [Option.bind_some]
      unfold f_X3_readLogPower_25
      rw [if_neg (show ¬ gR_arg (uR_arg (uR_at (mkR (nI (nx L a + 1)) f p t b w 1 1) (nI r.2)) (nI r.1)) = -1 from nI_m1 (by omega)), ← I32_nI r.1]
      rfl
  · simp only [if_neg c1, Option.bind_some, if_pos trivial]
    refine ⟨fun x hx => ?_, fun e he => by simp at he⟩
    injection hx with hx; subst hx
    rfl
set_option maxHeartbeats 1000000 in
set_option maxRecDepth 100000 in
theorem c_fun (g : gdL L) (hC : lC zL L) {a : Nat} (ha : a ≤ L.1) (f p : Int32) (t b : Int64) (w : Int32) : stg L (pFun L a) (f_X3_readFunction zL (mkR (nI a) f p t b w 0 0)) (fun c => mkR (nI c.1) f p t b w (nI c.2.1) (I32 c.2.2)) := by
  have hxa := nx_le ha
  have hxx := nx_nx ha
  unfold f_X3_readFunction pFun
  have e1 : f_X3_takes zL (mkR (nI a) f p t b w 0 0) 108 = _ := c_takes g hC (z := mkR (nI a) f p t b w 0 0) ha rfl (c := 108) (by omega)
  rw [e1]
  by_cases c1 : chL L (nx L a) = 108
  · have l1 := chIn c1 (by omega)
    rw [if_pos c1, if_pos c1, Option.bind_some, if_neg (show ¬ (1 : Int32) = 0 by decide)]
    have h := c_log g hC l1 f p t b w
    unfold stg at h ⊢
    have e2 : f_X3_readLogPower zL (uR_kind (uR_at (mkR (nI a) f p t b w 0 0) (nI (nx L a + 1))) 1) = f_X3_readLogPower zL (mkR (nI (nx L a + 1)) f p t b w 1 0) := rfl
    rw [e2]
    refine ⟨fun x hx => ?_, fun e he => ?_⟩
    · rw [h.1 x hx, Option.bind_some, if_pos (show zb 1 = true by decide)]
    · obtain ⟨z, q1, q2, q3⟩ := h.2 e he
      rw [q1, Option.bind_some, if_pos (show zb 0 = true by decide)]; exact ⟨z, rfl, q2, q3⟩
  rw [if_neg c1, if_neg c1, Option.bind_some, if_pos rfl]
  have e2 : f_X3_takes zL (uR_at (mkR (nI a) f p t b w 0 0) (nI (nx L a))) 101 = _ := c_takes g hC (z := mkR (nI (nx L a)) f p t b w 0 0) hxa rfl (c := 101) (by omega)
  rw [e2, hxx]
  by_cases c2 : chL L (nx L a) = 101
  · rw [if_pos c2, if_pos c2, Option.bind_some, if_neg (show ¬ (1 : Int32) = 0 by decide)]
    exact c_f72 g hC (chIn c2 (by omega)) f p t b w 2
  rw [if_neg c2, if_neg c2, Option.bind_some, if_pos rfl]
  have e3 : f_X3_takes zL (uR_at (mkR (nI (nx L a)) f p t b w 0 0) (nI (nx L a))) 115 = _ := c_takes g hC (z := mkR (nI (nx L a)) f p t b w 0 0) hxa rfl (c := 115) (by omega)
  rw [e3, hxx]
  by_cases c3 : chL L (nx L a) = 115
  · rw [if_pos c3, if_pos c3, Option.bind_some, if_neg (show ¬ (1 : Int32) = 0 by decide)]
    exact c_f72 g hC (chIn c3 (by omega)) f p t b w 3
  rw [if_neg c3, if_neg c3, Option.bind_some, if_pos rfl]
  have e4 : f_X3_takes zL (uR_at (mkR (nI (nx L a)) f p t b w 0 0) (nI (nx L a))) 99 = _ := c_takes g hC (z := mkR (nI (nx L a)) f p t b w 0 0) hxa rfl (c := 99) (by omega)
  rw [e4, hxx]
  by_cases c4 : chL L (nx L a) = 99
  · rw [if_pos c4, if_pos c4, Option.bind_some, if_neg (show ¬ (1 : Int32) = 0 by decide)]
    exact c_f72 g hC (chIn c4 (by omega)) f p t b w 4
  rw [if_neg c4, if_neg c4, Option.bind_some, if_pos rfl]
  refine ⟨fun x hx => ?_, fun e he => by simp at he⟩
  injection hx with hx; subst hx
  rfl
end CP
section PT
variable {L : Ln}
set_option maxHeartbeats 1000000 in
set_option maxRecDepth 100000 in
theorem pCoef_ok {a : Nat} {c : Nat × Nat × Nat} (ha : a ≤ L.1) (h : pCoef L a = .ok c) : nx L a ≤ c.1 ∧ c.1 ≤ L.1 ∧ c.2.1 ≤ 999 ∧ 1 ≤ c.2.2 ∧ c.2.2 ≤ 999 ∧ (isD (chL L (nx L a)) → nx L a < c.1) ∧ (¬ isD (chL L (nx L a)) → c.1 = nx L a) := by
  have hx := nx_le ha
  unfold pCoef at h
  by_cases d : isD (chL L (nx L a))
  · rw [if_pos d] at h
    have h1 := digs_gt (k := 2) (v := 0) d
    have h2 := digs_le (L := L) 3 (nx L a) 0 hx
    have h3 := digs_lt L 3 (nx L a) 0
    have h3' : (digs L 3 (nx L a) 0).1 < 1000 := by have : (0 + 1) * 10 ^ 3 = 1000 := by decide
                                                    omega
    have h1' : nx L a < (digs L 3 (nx L a) 0).2 := h1
    generalize digs L 3 (nx L a) 0 = D at *
    have h4 := nx_ge L D.2
    by_cases e : chL L (nx L D.2) = 47
    · rw [if_pos e] at h
      have l1 := chIn e (by omega)
      cases hn : numR L 1 999 (nx L D.2 + 1) with
      | error x => rw [hn] at h; exact absurd h (by simp)
      | ok r =>
        rw [hn] at h
        injection h with h; subst h
        have hr := numR_ok l1 hn
        have h5 := nx_ge L (nx L D.2 + 1)
        exact ⟨by show nx L a ≤ r.2; omega, hr.2.2.2, by show D.1 ≤ 999; omega, hr.1, hr.2.1, fun _ => by show nx L a < r.2; omega, fun h => absurd d h⟩
    · rw [if_neg e] at h
      injection h with h; subst h
      have h5 := nx_le h2.2
      exact ⟨by show nx L a ≤ nx L D.2; omega, h5, by show D.1 ≤ 999; omega, by show 1 ≤ 1; omega, by show 1 ≤ 999; omega, fun _ => by show nx L a < nx L D.2; omega, fun h => absurd d h⟩
  · rw [if_neg d] at h
    injection h with h; subst h
    exact ⟨Nat.le_refl _, hx, by simp, by simp, by simp, fun h => absurd h d, fun _ => rfl⟩
set_option maxHeartbeats 1000000 in
set_option maxRecDepth 100000 in
theorem sgA_ge (a : Nat) : a ≤ sgA L a := by
  have := nx_ge L a
  unfold sgA; split <;> omega
set_option maxHeartbeats 1000000 in
set_option maxRecDepth 100000 in
theorem sgV_abs (a v : Nat) : (sgV L a v).natAbs = v := by
  unfold sgV; split <;> omega
set_option maxHeartbeats 1000000 in
set_option maxRecDepth 100000 in
theorem pPow_ok {a : Nat} {p : Nat × Int} (ha : a ≤ L.1) (h : pPow L a = .ok p) : nx L a ≤ p.1 ∧ p.1 ≤ L.1 ∧ p.2.natAbs ≤ 12 ∧ ((p.1 = nx L a ∧ p.2 = 0 ∧ ¬ chL L (nx L a) = 120) ∨ (nx L a + 1 ≤ p.1 ∧ chL L (nx L a) = 120 ∧ (p.1 ≤ nx L a + 1 → p.2 = 1))) := by
  have hx := nx_le ha
  unfold pPow at h
  by_cases d : chL L (nx L a) = 120
  · rw [if_pos d] at h
    have l1 := chIn d (by omega)
    have g1 := nx_ge L (nx L a + 1)
    have g2 := nx_le l1
    by_cases e : chL L (nx L (nx L a + 1)) = 94
    · rw [if_pos e] at h
      have l2 := chIn e (by omega)
      generalize hb : nx L (nx L a + 1) + 1 = a2 at *
      have g3 := sgA_ge (L := L) a2
      have g4 := nx_ge L (sgA L a2)
      cases hn : numR L 0 12 (sgA L a2) with
      | error x => rw [hn] at h; exact absurd h (by simp)
      | ok r =>
        rw [hn] at h
        injection h with h; subst h
        have hr := numR_ok (sgA_le l2) hn
        refine ⟨by show nx L a ≤ r.2; omega, hr.2.2.2, by show (sgV L a2 r.1).natAbs ≤ 12; rw [sgV_abs]; exact hr.2.1, Or.inr ⟨by show nx L a + 1 ≤ r.2; omega, d, fun h => ?_⟩⟩
        have : r.2 ≤ nx L a + 1 := h
        omega
    · rw [if_neg e] at h
      injection h with h; subst h
      exact ⟨by show nx L a ≤ nx L (nx L a + 1); omega, g2, by simp, Or.inr ⟨g1, d, fun _ => rfl⟩⟩
  · rw [if_neg d] at h
    injection h with h; subst h
    exact ⟨Nat.le_refl _, hx, by simp, Or.inl ⟨rfl, rfl, d⟩⟩
set_option maxHeartbeats 1000000 in
set_option maxRecDepth 100000 in
theorem pMul_ok {kd a : Nat} {f : Nat × Nat × Int} (ha : a ≤ L.1) (h : pMul L kd a = .ok f) : a + 1 ≤ f.1 ∧ f.1 ≤ L.1 ∧ f.2.1 = kd ∧ f.2.2.natAbs ≤ 9 := by
  unfold pMul at h
  have g0 := nx_ge L a
  by_cases d : chL L (nx L a) = 40
  · rw [if_pos d] at h
    have l1 := chIn d (by omega)
    cases hn : pCnt L (sgA L (nx L a + 1)) with
    | error x => rw [hn] at h; exact absurd h (by simp)
    | ok r =>
      rw [hn] at h
      have hr := pCnt_ok (sgA_le l1) hn
      have h2 : (if chL L (nx L r.2) = 120 then (if chL L (nx L (nx L r.2 + 1)) = 41 then (.ok (nx L (nx L r.2 + 1) + 1, kd, sgV L (nx L a + 1) r.1) : Except Flt (Nat × Nat × Int)) else .error (-2, nx L (nx L r.2 + 1))) else .error (-2, nx L r.2)) = .ok f := h
      by_cases e : chL L (nx L r.2) = 120
      · rw [if_pos e] at h2
        have l2 := chIn e (by omega)
        by_cases e2 : chL L (nx L (nx L r.2 + 1)) = 41
        · rw [if_pos e2] at h2
          have l3 := chIn e2 (by omega)
          injection h2 with h2; subst h2
          have g1 := sgA_ge (L := L) (nx L a + 1)
          have g2 := nx_ge L (sgA L (nx L a + 1))
          have g3 := nx_ge L r.2
          have g4 := nx_ge L (nx L r.2 + 1)
          exact ⟨by show a + 1 ≤ nx L (nx L r.2 + 1) + 1; omega, l3, rfl, by show (sgV L (nx L a + 1) r.1).natAbs ≤ 9; rw [sgV_abs]; exact hr.1⟩
        · rw [if_neg e2] at h2; exact absurd h2 (by simp)
      · rw [if_neg e] at h2; exact absurd h2 (by simp)
  · rw [if_neg d] at h; exact absurd h (by simp)
set_option maxHeartbeats 1000000 in
set_option maxRecDepth 100000 in
theorem pLog_ok {a : Nat} {f : Nat × Nat × Int} (ha : a ≤ L.1) (h : pLog L a = .ok f) : a ≤ f.1 ∧ f.1 ≤ L.1 ∧ f.2.1 = 1 ∧ 0 ≤ f.2.2 ∧ f.2.2 ≤ 9 ∧ (f.1 ≤ a → f.2.2 = 1) := by
  unfold pLog at h
  have g0 := nx_ge L a
  by_cases d : chL L (nx L a) = 94
  · rw [if_pos d] at h
    have l1 := chIn d (by omega)
    cases hn : numR L 0 9 (nx L a + 1) with
    | error x => rw [hn] at h; exact absurd h (by simp)
    | ok r =>
      rw [hn] at h
      injection h with h; subst h
      have hr := numR_ok l1 hn
      have g1 := nx_ge L (nx L a + 1)
      exact ⟨by show a ≤ r.2; omega, hr.2.2.2, rfl, by show (0 : Int) ≤ r.1; omega, by show (r.1 : Int) ≤ 9; omega, fun h => by have : r.2 ≤ a := h; omega⟩
  · rw [if_neg d] at h
    injection h with h; subst h
    exact ⟨g0, nx_le ha, rfl, by simp, by simp, fun _ => rfl⟩
set_option maxHeartbeats 1000000 in
set_option maxRecDepth 100000 in
theorem pFun_ok {a : Nat} {f : Nat × Nat × Int} (ha : a ≤ L.1) (h : pFun L a = .ok f) : nx L a ≤ f.1 ∧ f.1 ≤ L.1 ∧ f.2.1 ≤ 4 ∧ f.2.2.natAbs ≤ 9 ∧ (f.2.1 = 1 → 0 ≤ f.2.2) ∧ (f.2.1 = 0 → f.2.2 = 0) ∧ ((f.1 = nx L a ∧ f.2.1 = 0) ∨ (nx L a + 1 ≤ f.1 ∧ f.2.1 ≠ 0 ∧ (f.1 ≤ nx L a + 1 → f.2.1 = 1 ∧ f.2.2 = 1))) := by
  have hx := nx_le ha
  unfold pFun at h
  by_cases d1 : chL L (nx L a) = 108
  · rw [if_pos d1] at h
    obtain ⟨q1, q2, q3, q4, q5, q6⟩ := pLog_ok (chIn d1 (by omega)) h
    exact ⟨by omega, q2, by omega, by omega, fun _ => q4, by omega, Or.inr ⟨q1, by omega, fun h => ⟨q3, q6 h⟩⟩⟩
  rw [if_neg d1] at h
  have mul : ∀ kd, 2 ≤ kd → kd ≤ 4 → nx L a + 1 ≤ L.1 → pMul L kd (nx L a + 1) = .ok f → nx L a ≤ f.1 ∧ f.1 ≤ L.1 ∧ f.2.1 ≤ 4 ∧ f.2.2.natAbs ≤ 9 ∧ (f.2.1 = 1 → 0 ≤ f.2.2) ∧ (f.2.1 = 0 → f.2.2 = 0) ∧ ((f.1 = nx L a ∧ f.2.1 = 0) ∨ (nx L a + 1 ≤ f.1 ∧ f.2.1 ≠ 0 ∧ (f.1 ≤ nx L a + 1 → f.2.1 = 1 ∧ f.2.2 = 1))) := by
    intro kd k2 k4 hl hm
    obtain ⟨q1, q2, q3, q4⟩ := pMul_ok hl hm
    exact ⟨by omega, q2, by omega, q4, by omega, by omega, Or.inr ⟨by omega, by omega, by omega⟩⟩
  by_cases d2 : chL L (nx L a) = 101
  · rw [if_pos d2] at h; exact mul 2 (by omega) (by omega) (chIn d2 (by omega)) h
  rw [if_neg d2] at h
  by_cases d3 : chL L (nx L a) = 115
  · rw [if_pos d3] at h; exact mul 3 (by omega) (by omega) (chIn d3 (by omega)) h
  rw [if_neg d3] at h
  by_cases d4 : chL L (nx L a) = 99
  · rw [if_pos d4] at h; exact mul 4 (by omega) (by omega) (chIn d4 (by omega)) h
  rw [if_neg d4] at h
  injection h with h; subst h
  exact ⟨Nat.le_refl _, hx, by simp, by simp, fun _ => by simp, fun _ => rfl, Or.inl ⟨rfl, rfl⟩⟩
abbrev spc (kd : Nat) (ag pw : Int) : Prop := (kd = 0 ∧ ag = 0 ∧ (pw = 0 ∨ pw = 1)) ∨ (kd = 1 ∧ ag = 1 ∧ pw = 0)
set_option maxHeartbeats 1000000 in
set_option maxRecDepth 100000 in
theorem pTerm_ok {a : Nat} {x : Nat × (Nat × Nat) × Int × Nat × Int} (ha : a ≤ L.1) (h : pTerm L a = .ok x) : nx L a < x.1 ∧ x.1 ≤ L.1 ∧ x.2.1.1 ≤ 999 ∧ 1 ≤ x.2.1.2 ∧ x.2.1.2 ≤ 999 ∧ x.2.2.1.natAbs ≤ 12 ∧ x.2.2.2.1 ≤ 4 ∧ x.2.2.2.2.natAbs ≤ 9 ∧ (x.2.2.2.1 = 1 → 0 ≤ x.2.2.2.2) ∧ (x.2.2.2.1 = 0 → x.2.2.2.2 = 0) ∧ (x.1 ≤ nx L a + 1 → spc x.2.2.2.1 x.2.2.2.2 x.2.2.1) := by
  unfold pTerm at h
  cases hc : pCoef L a with
  | error e => rw [hc] at h; exact absurd h (by simp)
  | ok c =>
    rw [hc] at h
    obtain ⟨c1, c2, c3, c4, c5, c6, c7⟩ := pCoef_ok ha hc
    have h1 : (match pPow L c.1 with
      | .error e => (.error e : Except Flt (Nat × (Nat × Nat) × Int × Nat × Int))
      | .ok p => match pFun L p.1 with
        | .error e => .error e
        | .ok f => if nx L a < f.1 then .ok (f.1, c.2, p.2, f.2.1, f.2.2) else .error (-2, f.1)) = .ok x := h
    cases hp : pPow L c.1 with
    | error e => rw [hp] at h1; exact absurd h1 (by simp)
    | ok p =>
      rw [hp] at h1
      obtain ⟨p1, p2, p3, p4⟩ := pPow_ok c2 hp
      have h2 : (match pFun L p.1 with
        | .error e => (.error e : Except Flt (Nat × (Nat × Nat) × Int × Nat × Int))
        | .ok f => if nx L a < f.1 then .ok (f.1, c.2, p.2, f.2.1, f.2.2) else .error (-2, f.1)) = .ok x := h1
      cases hf : pFun L p.1 with
      | error e => rw [hf] at h2; exact absurd h2 (by simp)
      | ok f =>
        rw [hf] at h2
        obtain ⟨f1, f2, f3, f4, f5, f6, f7⟩ := pFun_ok p2 hf
        have h3 : (if nx L a < f.1 then (.ok (f.1, c.2, p.2, f.2.1, f.2.2) : Except Flt (Nat × (Nat × Nat) × Int × Nat × Int)) else .error (-2, f.1)) = .ok x := h2
        by_cases d : nx L a < f.1
        · rw [if_pos d] at h3
          injection h3 with h3; subst h3
          refine ⟨d, f2, c3, c4, c5, p3, f3, f4, f5, f6, fun hl => ?_⟩
          have hl' : f.1 ≤ nx L a + 1 := hl
          show spc f.2.1 f.2.2 p.2
          have g1 := nx_ge L c.1
          have g2 := nx_ge L p.1
          unfold spc
          by_cases y : isD (chL L (nx L a))
          · have := c6 y
            omega
          · have := c7 y
            omega
        · rw [if_neg d] at h3; exact absurd h3 (by simp)
end PT
section CT
variable {L : Ln} {zL : LineS}
set_option maxHeartbeats 1000000 in
set_option maxRecDepth 100000 in
theorem pCoef_nx {a : Nat} (ha : a ≤ L.1) : pCoef L (nx L a) = pCoef L a := by unfold pCoef; rw [nx_nx ha]
def sgn (below : Int32) (t : Nat) : Int := if below = 0 then (t : Int) else -(t : Int)
set_option maxHeartbeats 1000000 in
set_option maxRecDepth 100000 in
theorem c_term (g : gdL L) (hC : lC zL L) {a : Nat} {z : RdS} (ha : a ≤ L.1) (h : gR_at z = nI a) (below : Int32) : stg L (pTerm L a) (f_X3_readTerm zL z below) (fun x => mkR (nI x.1) (gR_fault z) (gR_place z) (I64 (sgn below x.2.1.1)) (I64 (x.2.1.2 : Int)) (I32 x.2.2.1) (nI x.2.2.2.1) (I32 x.2.2.2.2)) := by
  have g1 := g.1
  have hxa := nx_le ha
  unfold stg f_X3_readTerm
  have e1 : f_X3_next zL (uR_arg (uR_kind (uR_power (uR_bottom (uR_top z 1) 1) 0) 0) 0) = some (nI (chL L (nx L a)), mkR (nI (nx L a)) (gR_fault z) (gR_place z) 1 1 0 0 0) := c_next g hC (z := uR_arg (uR_kind (uR_power (uR_bottom (uR_top z 1) 1) 0) 0) 0) ha h
  rw [e1]
  simp only [Option.bind_some]
  have s1 := c_coef g hC hxa (gR_fault z) (gR_place z) 0 0 0
  rw [pCoef_nx ha] at s1
  unfold pTerm
  cases hc : pCoef L a with
  | error e =>
    obtain ⟨z', q1, q2, q3⟩ := s1.2 e hc
    refine ⟨fun x hx => by simp at hx, fun e' he => ?_⟩
    injection he with he; subst he
    rw [q1]
    exact ⟨z', by simp, q2, q3⟩
  | ok c =>
    obtain ⟨c1, c2, c3, c4, c5, c6, c7⟩ := pCoef_ok ha hc
    rw [s1.1 c hc]
    simp only [Option.bind_some, if_neg (show ¬ (1 : Int32) = 0 by decide)]
    have s2 := c_pow g hC c2 (gR_fault z) (gR_place z) (I64 (c.2.1 : Int)) (I64 (c.2.2 : Int)) 0 0
    cases hp : pPow L c.1 with
    | error e =>
      obtain ⟨z', q1, q2, q3⟩ := s2.2 e hp
      refine ⟨fun x hx => by simp at hx, fun e' he => ?_⟩
      injection he with he; subst he
      rw [q1]
      exact ⟨z', by simp, q2, q3⟩
    | ok p =>
      obtain ⟨p1, p2, p3, p4⟩ := pPow_ok c2 hp
      rw [s2.1 p hp]
      simp only [Option.bind_some, if_neg (show ¬ (1 : Int32) = 0 by decide)]
      have s3 := c_fun g hC p2 (gR_fault z) (gR_place z) (I64 (c.2.1 : Int)) (I64 (c.2.2 : Int)) (I32 p.2)
      cases hf : pFun L p.1 with
      | error e =>
        obtain ⟨z', q1, q2, q3⟩ := s3.2 e hf
        refine ⟨fun x hx => by simp at hx, fun e' he => ?_⟩
        injection he with he; subst he
        rw [q1]
        exact ⟨z', by simp, q2, q3⟩
      | ok f =>
        obtain ⟨f1, f2, f3, f4, f5, f6, f7⟩ := pFun_ok p2 hf
        rw [s3.1 f hf]
        simp only [Option.bind_some, if_pos (show ¬ (1 : Int32) = 0 by decide)]
        have tail : ∀ v : Int, f_X3_readTerm_75 zL (mkR (nI f.1) (gR_fault z) (gR_place z) (I64 (c.2.1 : Int)) (I64 (c.2.2 : Int)) (I32 p.2) (nI f.2.1) (I32 f.2.2)) (nI (nx L a)) (I64 v) = (if nx L a < f.1 then some (1, mkR (nI f.1) (gR_fault z) (gR_place z) (I64 v) (I64 (c.2.2 : Int)) (I32 p.2) (nI f.2.1) (I32 f.2.2)) else some (0, mkR (nI f.1) (-2) (nI f.1) (I64 v) (I64 (c.2.2 : Int)) (I32 p.2) (nI f.2.1) (I32 f.2.2))) := by
          intro v
          unfold f_X3_readTerm_75 f_X3_readTerm_99 f_X3_refuse
          have lt : nI (nx L a) < gR_at (uR_top (mkR (nI f.1) (gR_fault z) (gR_place z) (I64 (c.2.1 : Int)) (I64 (c.2.2 : Int)) (I32 p.2) (nI f.2.1) (I32 f.2.2)) (I64 v)) ↔ nx L a < f.1 := qI_lt (by omega) (by omega)
          by_cases d : nx L a < f.1
          · rw [if_pos (lt.mpr d), if_pos d]; rfl
          · rw [if_neg (fun e => d (lt.mp e)), if_neg d, Option.bind_some, if_pos rfl]; rfl
        have both : (if below = 0 then f_X3_readTerm_75 zL (mkR (nI f.1) (gR_fault z) (gR_place z) (I64 (c.2.1 : Int)) (I64 (c.2.2 : Int)) (I32 p.2) (nI f.2.1) (I32 f.2.2)) (nI (nx L a)) (I64 (c.2.1 : Int)) else f_X3_readTerm_75 zL (mkR (nI f.1) (gR_fault z) (gR_place z) (I64 (c.2.1 : Int)) (I64 (c.2.2 : Int)) (I32 p.2) (nI f.2.1) (I32 f.2.2)) (nI (nx L a)) (-(I64 (c.2.1 : Int)))) = (if nx L a < f.1 then some (1, mkR (nI f.1) (gR_fault z) (gR_place z) (I64 (sgn below c.2.1)) (I64 (c.2.2 : Int)) (I32 p.2) (nI f.2.1) (I32 f.2.2)) else some (0, mkR (nI f.1) (-2) (nI f.1) (I64 (sgn below c.2.1)) (I64 (c.2.2 : Int)) (I32 p.2) (nI f.2.1) (I32 f.2.2))) := by
          unfold sgn
          by_cases b : below = 0
          · rw [if_pos b, if_pos b, tail]
          · rw [if_neg b, if_neg b, I64_neg, tail]
        have both' : (if below = 0 then f_X3_readTerm_75 zL (mkR (nI f.1) (gR_fault z) (gR_place z) (I64 (c.2.1 : Int)) (I64 (c.2.2 : Int)) (I32 p.2) (nI f.2.1) (I32 f.2.2)) (gR_at (mkR (nI (nx L a)) (gR_fault z) (gR_place z) 1 1 0 0 0)) (gR_top (mkR (nI f.1) (gR_fault z) (gR_place z) (I64 (c.2.1 : Int)) (I64 (c.2.2 : Int)) (I32 p.2) (nI f.2.1) (I32 f.2.2))) else f_X3_readTerm_75 zL (mkR (nI f.1) (gR_fault z) (gR_place z) (I64 (c.2.1 : Int)) (I64 (c.2.2 : Int)) (I32 p.2) (nI f.2.1) (I32 f.2.2)) (gR_at (mkR (nI (nx L a)) (gR_fault z) (gR_place z) 1 1 0 0 0)) (-(gR_top (mkR (nI f.1) (gR_fault z) (gR_place z) (I64 (c.2.1 : Int)) (I64 (c.2.2 : Int)) (I32 p.2) (nI f.2.1) (I32 f.2.2))))) = _ := both
        rw [both']
        by_cases d : nx L a < f.1
        · simp only [if_pos d]
          refine ⟨fun x hx => ?_, fun e' he => by simp at he⟩
          injection hx with hx; subst hx
          rfl
        · simp only [if_neg d]
          refine ⟨fun x hx => by simp at hx, fun e' he => ?_⟩
          injection he with he; subst he
          exact ⟨_, rfl, rfl, rfl⟩
end CT
def mErr (z : MdS) (e : Flt) (x : Int32) : MdS := uM_wrongPlace (uM_fault (uM_at z x) e.1) (nI e.2)
section FR
set_option maxHeartbeats 1000000 in
set_option maxRecDepth 100000 in
theorem fr_takes {z : MdS} (hz : ¬ gM_fault z = 0) (c : Int32) : f_X7_takes z c = some (0, z) := by unfold f_X7_takes; rw [if_pos hz]
set_option maxHeartbeats 1000000 in
set_option maxRecDepth 100000 in
theorem fr_wrong {z : MdS} (hz : ¬ gM_fault z = 0) (c d : Int32) : f_X7_wrong z c d = some z := by unfold f_X7_wrong; rw [if_pos hz]
set_option maxHeartbeats 1000000 in
set_option maxRecDepth 100000 in
theorem fr_want {z : MdS} (hz : ¬ gM_fault z = 0) (c : Int32) : f_X7_want z c = some z := by
  unfold f_X7_want
  rw [fr_takes hz, Option.bind_some, if_neg (by simp), fr_wrong hz]; rfl
set_option maxHeartbeats 1000000 in
set_option maxRecDepth 100000 in
theorem fr_num {z : MdS} (hz : ¬ gM_fault z = 0) (c d : Int32) : f_X7_readNumber z c d = some (0, z) := by unfold f_X7_readNumber; rw [if_neg hz]
set_option maxHeartbeats 1000000 in
set_option maxRecDepth 100000 in
theorem fr_320 {z : MdS} (hz : ¬ gM_fault z = 0) (x1 : Int32) (x2 x4 : Int64) (x6 x7 x8 : Int32) : f_X7_readTerm_320 z x1 x2 x4 x6 x7 x8 = some z := by unfold f_X7_readTerm_320; rw [if_pos hz]
set_option maxHeartbeats 1000000 in
set_option maxRecDepth 100000 in
theorem fr_298 {z : MdS} (hz : ¬ gM_fault z = 0) (x1 : Int32) (x2 x4 : Int64) (x6 x7 x8 x9 : Int32) : f_X7_readTerm_298 z x1 x2 x4 x6 x7 x8 x9 = some z := by unfold f_X7_readTerm_298; rw [if_pos hz, fr_320 hz]
set_option maxHeartbeats 1000000 in
set_option maxRecDepth 100000 in
theorem fr_284 {z : MdS} (hz : ¬ gM_fault z = 0) (x1 : Int32) (x2 x4 : Int64) (x6 x7 x9 v : Int32) : f_X7_readTerm_284 z x1 x2 x4 x6 x7 x9 v = some z := by
  unfold f_X7_readTerm_284; rw [fr_want hz, Option.bind_some, fr_want hz, Option.bind_some, fr_298 hz]
set_option maxHeartbeats 1000000 in
set_option maxRecDepth 100000 in
theorem fr_269 {z : MdS} (hz : ¬ gM_fault z = 0) (x1 : Int32) (x2 x4 : Int64) (x6 x7 x9 x10 v : Int32) : f_X7_readTerm_269 z x1 x2 x4 x6 x7 x9 x10 v = some z := by
  unfold f_X7_readTerm_269; rw [fr_284 hz, fr_284 hz, ite_self]
set_option maxHeartbeats 1000000 in
set_option maxRecDepth 100000 in
theorem fr_268 {z : MdS} (hz : ¬ gM_fault z = 0) (x1 : Int32) (x2 x4 : Int64) (x6 x7 x9 x10 : Int32) : f_X7_readTerm_268 z x1 x2 x4 x6 x7 x9 x10 = some z := by
  unfold f_X7_readTerm_268; rw [fr_269 hz]
set_option maxHeartbeats 1000000 in
set_option maxRecDepth 100000 in
theorem fr_112 {z : MdS} (hz : ¬ gM_fault z = 0) (x1 : Int32) (x2 x4 : Int64) (x6 x7 x8 x9 : Int32) : f_X7_readTerm_112 z x1 x2 x4 x6 x7 x8 x9 = some z := by
  unfold f_X7_readTerm_112; rw [fr_takes hz, Option.bind_some, if_pos rfl, if_pos hz, fr_298 hz]
set_option maxHeartbeats 1000000 in
set_option maxRecDepth 100000 in
theorem fr_110 {z : MdS} (hz : ¬ gM_fault z = 0) (x1 : Int32) (x2 x4 : Int64) (x7 x8 x9 v : Int32) : f_X7_readTerm_110 z x1 x2 x4 x7 x8 x9 v = some z := by
  unfold f_X7_readTerm_110; rw [fr_112 hz]
set_option maxHeartbeats 1000000 in
set_option maxRecDepth 100000 in
theorem fr_56 {z : MdS} (hz : ¬ gM_fault z = 0) (x1 : Int32) (x2 x4 : Int64) (x6 x7 x8 x9 : Int32) : f_X7_readTerm_56 z x1 x2 x4 x6 x7 x8 x9 = some z := by
  unfold f_X7_readTerm_56; rw [fr_takes hz, Option.bind_some, if_pos rfl, fr_112 hz]
end FR
set_option maxHeartbeats 1000000 in
set_option maxRecDepth 100000 in
theorem mErr_f {z : MdS} {e : Flt} {x : Int32} (h : e.1 = -2 ∨ e.1 = -3) : ¬ gM_fault (mErr z e x) = 0 := by
  show ¬ e.1 = 0
  rcases h with h | h <;> rw [h] <;> decide
section ML
variable {L : Ln}
set_option maxHeartbeats 1000000 in
set_option maxRecDepth 100000 in
theorem m_next38 (g : gdL L) {a : Nat} {z : MdS} (hM : lM z L) (ha : a ≤ L.1) (h : gM_at z = nI a) : f_X7_next_38 z = some (nI (chL L a), z) := by
  have g1 := g.1
  unfold f_X7_next_38
  rw [hM.1, h]
  by_cases c : L.1 ≤ a
  · rw [if_pos ((qI_le (by omega) (by omega)).mpr c), if_pos cb0, (chL_0 g).mpr c]; rfl
  · rw [if_neg (fun e => c ((qI_le (by omega) (by omega)).mp e)), if_pos ((inb_nI (by omega)).mpr (by omega)), nI_nat (by omega), hM.2 a (by omega) (by omega)]
    have : chL L a = L.2 a := by unfold chL; rw [if_pos (by omega)]
    rw [this, if_pos (cb_nI (g.2 a (by omega)).2)]
set_option maxHeartbeats 1000000 in
set_option maxRecDepth 100000 in
theorem m_next0 (g : gdL L) : ∀ (d fu a : Nat) (z : MdS), lM z L → a + d = L.1 → d < fu → gM_at z = nI a → f_X7_next_0 fu z = some (nI (chL L (nx L a)), uM_at z (nI (nx L a))) := by
  have g1 := g.1
  intro d
  induction d with
  | zero =>
    intro fu a z hM ha hf h
    obtain ⟨fu, rfl⟩ : ∃ f, fu = f + 1 := ⟨fu - 1, by omega⟩
    have hx : nx L a = a := nx_stop (L := L) (a := a) (fun e => by have := e.1; omega)
    rw [hx, f_X7_next_0, hM.1, h, if_pos ((qI_le (by omega) (by omega)).mpr (by omega)), m_next38 g hM (by omega) h, uM_at_self h]
  | succ d ih =>
    intro fu a z hM ha hf h
    obtain ⟨fu, rfl⟩ : ∃ f, fu = f + 1 := ⟨fu - 1, by omega⟩
    rw [f_X7_next_0, hM.1, h, if_neg (fun e => by have := (qI_le (by omega) (by omega)).mp e; omega), if_pos ((inb_nI (by omega)).mpr (by omega)), nI_nat (by omega), hM.2 a (by omega) (by omega)]
    have e32 : nI (L.2 a) = 32 ↔ L.2 a = 32 := nI_inj (m := 32) (by have := (g.2 a (by omega)).2; omega) (by omega)
    by_cases c : L.2 a = 32
    · rw [if_neg (fun e => e (e32.mpr c)), nI_add1, nx_go (by omega) c]
      exact ih fu (a + 1) (uM_at z (nI (a + 1))) hM (by omega) (by omega) rfl
    · rw [if_pos (fun e => c (e32.mp e)), nx_stop (fun e => c e.2), m_next38 g hM (by omega) h, uM_at_self h]
set_option maxHeartbeats 1000000 in
set_option maxRecDepth 100000 in
theorem m_next (g : gdL L) {a : Nat} {z : MdS} (hM : lM z L) (ha : a ≤ L.1) (h : gM_at z = nI a) : f_X7_next z = some (nI (chL L (nx L a)), uM_at z (nI (nx L a))) := by
  have g1 := g.1
  exact m_next0 g (L.1 - a) fuel a z hM (by omega) (by rw [fuel_eq]; omega) h
set_option maxHeartbeats 1000000 in
set_option maxRecDepth 100000 in
theorem m_takes (g : gdL L) {a : Nat} {z : MdS} (hM : lM z L) (hz : gM_fault z = 0) (ha : a ≤ L.1) (h : gM_at z = nI a) {c : Nat} (hc : c < 256) : f_X7_takes z (nI c) = (if chL L (nx L a) = c then some (1, uM_at z (nI (nx L a + 1))) else some (0, uM_at z (nI (nx L a)))) := by
  unfold f_X7_takes
  rw [if_neg (fun e => e hz), m_next g hM ha h, Option.bind_some]
  by_cases x : chL L (nx L a) = c
  · rw [if_pos x, if_pos ((eq_ch g _ hc).mpr x), ← nI_add1]; rfl
  · rw [if_neg x, if_neg (fun e => x ((eq_ch g _ hc).mp e))]
set_option maxHeartbeats 1000000 in
set_option maxRecDepth 100000 in
theorem m_want (g : gdL L) {a : Nat} {z : MdS} (hM : lM z L) (hz : gM_fault z = 0) (ha : a ≤ L.1) (h : gM_at z = nI a) {c : Nat} (hc : c < 256) :
    (chL L (nx L a) = c → f_X7_want z (nI c) = some (uM_at z (nI (nx L a + 1)))) ∧ (¬ chL L (nx L a) = c → f_X7_want z (nI c) = some (mErr z (-2, nx L a) (nI (nx L a)))) := by
  unfold f_X7_want
  rw [m_takes g hM hz ha h hc]
  refine ⟨fun x => ?_, fun x => ?_⟩
  · rw [if_pos x, Option.bind_some, if_pos (show ¬ (1 : Int32) = 0 by decide)]
  · rw [if_neg x, Option.bind_some, if_neg (by simp)]
    unfold f_X7_wrong
    rw [if_neg (show ¬ ¬ gM_fault (uM_at z (nI (nx L a))) = 0 from fun e => e hz)]
    rfl
set_option maxHeartbeats 1000000 in
set_option maxRecDepth 100000 in
theorem m_sign (g : gdL L) {a : Nat} {z : MdS} (hM : lM z L) (hz : gM_fault z = 0) (ha : a ≤ L.1) (h : gM_at z = nI a) : f_X7_takes z 45 = some ((if bl L a then 1 else 0), uM_at z (nI (sgA L a))) := by
  have e' : f_X7_takes z 45 = _ := m_takes g hM hz ha h (c := 45) (by omega)
  rw [e']
  unfold sgA
  by_cases c : bl L a
  · have c' : chL L (nx L a) = 45 := c
    rw [if_pos c, if_pos c, if_pos c']
  · have c' : ¬ chL L (nx L a) = 45 := c
    rw [if_neg c, if_neg c, if_neg c']
set_option maxHeartbeats 1000000 in
set_option maxRecDepth 100000 in
theorem m_num26 (g : gdL L) (x1 x2 x6 : Int32) : ∀ (r fu a v k : Nat) (z : MdS), lM z L → k + r = 3 → r < fu → a ≤ L.1 → v < 10 ^ k → gM_at z = nI a → ∃ k2, k2 ≤ 3 ∧ (k2 = 0 ↔ k = 0 ∧ ¬ isD (chL L a)) ∧ f_X7_readNumber_26 fu z x1 x2 (nI v) (nI k) x6 = f_X7_readNumber_92 (uM_at z (nI (digs L r a v).2)) x1 x2 (nI (digs L r a v).1) (nI k2) x6 := by
  have g1 := g.1
  intro r
  induction r with
  | zero =>
    intro fu a v k z hM hk hf ha hv h
    obtain ⟨fu, rfl⟩ : ∃ f, fu = f + 1 := ⟨fu - 1, by omega⟩
    have : k = 3 := by omega
    subst this
    refine ⟨3, by omega, by omega, ?_⟩
    rw [f_X7_readNumber_26, if_pos (show (3 : Int32) ≤ nI 3 by decide)]
    show _ = f_X7_readNumber_92 (uM_at z (nI a)) x1 x2 (nI v) (nI 3) x6
    rw [uM_at_self h]
  | succ r ih =>
    intro fu a v k z hM hk hf ha hv h
    obtain ⟨fu, rfl⟩ : ∃ f, fu = f + 1 := ⟨fu - 1, by omega⟩
    have hv' : v < 1000 := Nat.lt_of_lt_of_le hv (by have : 10 ^ k ≤ 10 ^ 3 := Nat.pow_le_pow_right (by omega) (by omega)
                                                     exact this)
    have hch := chL_lt g a
    rw [f_X7_readNumber_26, if_neg (show ¬ (3 : Int32) ≤ nI k from fun e => by have := (qI_le (n := 3) (by omega) (by omega)).mp e; omega), hM.1, h]
    by_cases cl : L.1 ≤ a
    · rw [if_pos ((qI_le (by omega) (by omega)).mpr cl)]
      have hnd : ¬ isD (chL L a) := by rw [(chL_0 g).mpr cl]; unfold isD; omega
      unfold digs
      rw [if_neg hnd, uM_at_self h]
      exact ⟨k, by omega, ⟨fun e => ⟨e, hnd⟩, fun e => e.1⟩, rfl⟩
    · rw [if_neg (fun e => cl ((qI_le (by omega) (by omega)).mp e)), if_pos ((inb_nI (by omega)).mpr (by omega)), nI_nat (by omega), hM.2 a (by omega) (by omega)]
      have hchL : chL L a = L.2 a := by unfold chL; rw [if_pos (by omega)]
      rw [← hchL, (c_digit hch).2]
      simp only [Option.bind_some]
      unfold digs
      by_cases c : isD (chL L a)
      · rw [if_pos c, if_pos c, if_neg (show ¬ (1 : Int32) = 0 by decide), if_pos ((inb_nI (by omega)).mpr (by omega))]
        have hD := c
        unfold isD at c
        have e1 : (10 : Int32) * nI v + nI (chL L a) - 48 = nI (10 * v + (chL L a - 48)) := by
          have h1 : (10 : Int32) * nI v = nI (10 * v) := nI_mul 10 v
          have h2 : nI (10 * v + chL L a) - 48 = nI (10 * v + chL L a - 48) := nI_sub (m := 48) (by omega)
          rw [h1, qI_add, h2]; congr 1; omega
        rw [e1, nI_add1, nI_add1]
        have hvk : 10 * v + (chL L a - 48) < 10 ^ (k + 1) := by rw [Nat.pow_succ]; omega
        obtain ⟨k2, q1, q2, q3⟩ := ih fu (a + 1) _ (k + 1) (uM_at z (nI (a + 1))) hM (by omega) (by omega) (by omega) hvk rfl
        exact ⟨k2, q1, ⟨fun e => by have := (q2.mp e).1; omega, fun e => absurd hD e.2⟩, q3⟩
      · rw [if_neg c, if_neg c, if_pos rfl, uM_at_self h]
        exact ⟨k, by omega, ⟨fun e => ⟨e, c⟩, fun e => e.1⟩, rfl⟩
set_option maxHeartbeats 1000000 in
set_option maxRecDepth 100000 in
theorem m_num (g : gdL L) {a le mo : Nat} {z : MdS} (hM : lM z L) (hz : gM_fault z = 0) (ha : a ≤ L.1) (h : gM_at z = nI a) (hle : le < 1000) {x2 : Int32} (hmo : (x2 = nI mo ∧ mo < 1000) ∨ (x2 = -1 ∧ mo = 999)) :
    (∀ r, numR L le mo a = .ok r → f_X7_readNumber z (nI le) x2 = some (nI r.1, uM_at z (nI r.2))) ∧ (∀ e, numR L le mo a = .error e → ∃ v x, f_X7_readNumber z (nI le) x2 = some (v, mErr z e x)) := by
  have hxa := nx_le ha
  have hd := digs_lt L 3 (nx L a) 0
  have hd' : (digs L 3 (nx L a) 0).1 < 1000 := by have : (0 + 1) * 10 ^ 3 = 1000 := by decide
                                                  omega
  unfold f_X7_readNumber numR
  rw [if_pos hz, m_next g hM ha h]
  simp only [Option.bind_some]
  obtain ⟨k2, k3, k0, e26⟩ := m_num26 g (nI le) x2 (nI (nx L a)) 3 fuel (nx L a) 0 0 (uM_at z (nI (nx L a))) hM (by omega) (by rw [fuel_eq]; omega) hxa (by omega) rfl
  have e26' : f_X7_readNumber_26 fuel (uM_at z (nI (nx L a))) (nI le) x2 0 0 (gM_at (uM_at z (nI (nx L a)))) = f_X7_readNumber_92 (uM_at z (nI (digs L 3 (nx L a) 0).2)) (nI le) x2 (nI (digs L 3 (nx L a) 0).1) (nI k2) (nI (nx L a)) := e26
  rw [e26']
  have kk : nI k2 = 0 ↔ k2 = 0 := nI_inj (m := 0) (by omega) (by omega)
  unfold f_X7_readNumber_92 f_X7_readNumber_124
  have hw : ∀ c d, f_X7_wrong (uM_at z (nI (digs L 3 (nx L a) 0).2)) c d = some (uM_wrongPlace (uM_fault (uM_at z (nI (digs L 3 (nx L a) 0).2)) c) d) := by
    intro c d; unfold f_X7_wrong; rw [if_neg (show ¬ ¬ gM_fault (uM_at z (nI (digs L 3 (nx L a) 0).2)) = 0 from fun e => e hz)]
  rw [hw, hw]
  simp only [Option.bind_some]
  by_cases c : isD (chL L (nx L a))
  · simp only [if_pos c]
    rw [if_pos (fun e => (k0.mp (kk.mp e)).2 c)]
    have c1 : nI (digs L 3 (nx L a) 0).1 < nI le ↔ (digs L 3 (nx L a) 0).1 < le := qI_lt (by omega) (by omega)
    by_cases d1 : (digs L 3 (nx L a) 0).1 < le
    · rw [if_pos (c1.mpr d1), if_pos (Or.inl d1)]
      refine ⟨fun r hr => by simp at hr, fun e he => ?_⟩
      injection he with he; subst he
      exact ⟨_, _, rfl⟩
    · rw [if_neg (fun e => d1 (c1.mp e))]
      rcases hmo with ⟨rfl, hmo⟩ | ⟨rfl, hmo⟩
      · have c2 : nI (digs L 3 (nx L a) 0).1 ≤ nI mo ↔ (digs L 3 (nx L a) 0).1 ≤ mo := qI_le (by omega) (by omega)
        rw [if_neg (show ¬ nI mo < 0 from fun e => by have := (qI_lt (n := mo) (m := 0) (by omega) (by omega)).mp e; omega)]
        by_cases d2 : (digs L 3 (nx L a) 0).1 ≤ mo
        · rw [if_pos (c2.mpr d2), if_neg (show ¬ ((digs L 3 (nx L a) 0).1 < le ∨ mo < (digs L 3 (nx L a) 0).1) by omega)]
          refine ⟨fun r hr => ?_, fun e he => by simp at he⟩
          injection hr with hr; subst hr
          rfl
        · rw [if_neg (show ¬ nI (digs L 3 (nx L a) 0).1 ≤ nI mo from fun e => d2 (c2.mp e)), if_pos (show ((digs L 3 (nx L a) 0).1 < le ∨ mo < (digs L 3 (nx L a) 0).1) by omega)]
          refine ⟨fun r hr => by simp at hr, fun e he => ?_⟩
          injection he with he; subst he
          exact ⟨_, _, rfl⟩
      · rw [if_pos (show (-1 : Int32) < 0 by decide), if_neg (show ¬ ((digs L 3 (nx L a) 0).1 < le ∨ mo < (digs L 3 (nx L a) 0).1) by omega)]
        refine ⟨fun r hr => ?_, fun e he => by simp at he⟩
        injection hr with hr; subst hr
        rfl
  · simp only [if_neg c]
    have hk : k2 = 0 := k0.mpr ⟨rfl, c⟩
    rw [if_neg (fun e => e (kk.mpr hk))]
    refine ⟨fun r hr => by simp at hr, fun e he => ?_⟩
    injection he with he; subst he
    have hdd : digs L 3 (nx L a) 0 = (0, nx L a) := by unfold digs; rw [if_neg c]
    rw [hdd]
    exact ⟨_, _, rfl⟩
end ML
section MT2
variable {L : Ln}
set_option maxHeartbeats 1000000 in
set_option maxRecDepth 100000 in
theorem m_298 {z : MdS} (hz : gM_fault z = 0) (x1 : Int32) (x2 x4 : Int64) (x6 x7 x8 x9 : Int32) :
    (¬ x9 = 0 → f_X7_readTerm_298 z x1 x2 x4 x6 x7 x8 x9 = f_X7_readTerm_320 z x1 x2 x4 x6 x7 x8) ∧ (x9 = 0 → f_X7_readTerm_298 z x1 x2 x4 x6 x7 x8 x9 = some (uM_wrongPlace (uM_fault z (-2)) (gM_at z))) := by
  unfold f_X7_readTerm_298
  rw [if_neg (fun e => e hz)]
  refine ⟨fun h => by rw [if_pos h], fun h => ?_⟩
  rw [if_neg (fun e => e h)]
  unfold f_X7_wrong
  rw [if_neg (fun e => e hz), Option.bind_some]
  exact fr_320 (z := uM_wrongPlace (uM_fault z (-2)) (gM_at z)) (show ¬ (-2 : Int32) = 0 by decide) x1 x2 x4 x6 x7 x8
set_option maxHeartbeats 1000000 in
set_option maxRecDepth 100000 in
theorem m_284 (g : gdL L) {a : Nat} {z : MdS} (hM : lM z L) (hz : gM_fault z = 0) (ha : a ≤ L.1) (h : gM_at z = nI a) (x1 : Int32) (x2 x4 : Int64) (x6 x7 v : Int32) :
    (chL L (nx L a) = 120 → chL L (nx L (nx L a + 1)) = 41 → f_X7_readTerm_284 z x1 x2 x4 x6 x7 1 v = f_X7_readTerm_320 (uM_at z (nI (nx L (nx L a + 1) + 1))) x1 x2 x4 x6 x7 v) ∧
    (chL L (nx L a) = 120 → ¬ chL L (nx L (nx L a + 1)) = 41 → ∃ x, f_X7_readTerm_284 z x1 x2 x4 x6 x7 1 v = some (mErr z (-2, nx L (nx L a + 1)) x)) ∧
    (¬ chL L (nx L a) = 120 → ∃ x, f_X7_readTerm_284 z x1 x2 x4 x6 x7 1 v = some (mErr z (-2, nx L a) x)) := by
  unfold f_X7_readTerm_284
  have w1 := m_want g hM hz ha h (c := 120) (by omega)
  refine ⟨fun c1 c2 => ?_, fun c1 c2 => ?_, fun c1 => ?_⟩
  · have l1 := chIn c1 (by omega)
    have w1' : f_X7_want z 120 = _ := w1.1 c1
    rw [w1', Option.bind_some]
    have hM1 : lM (uM_at z (nI (nx L a + 1))) L := hM
    have w2 := (m_want g hM1 hz l1 rfl (c := 41) (by omega)).1 c2
    have w2' : f_X7_want (uM_at z (nI (nx L a + 1))) 41 = some (uM_at z (nI (nx L (nx L a + 1) + 1))) := w2
    rw [w2', Option.bind_some]
    exact (m_298 (z := uM_at z (nI (nx L (nx L a + 1) + 1))) hz x1 x2 x4 x6 x7 v 1).1 (by decide)
  · have l1 := chIn c1 (by omega)
    have w1' : f_X7_want z 120 = _ := w1.1 c1
    rw [w1', Option.bind_some]
    have hM1 : lM (uM_at z (nI (nx L a + 1))) L := hM
    have w2 := (m_want g hM1 hz l1 rfl (c := 41) (by omega)).2 c2
    have w2' : f_X7_want (uM_at z (nI (nx L a + 1))) 41 = some (mErr z (-2, nx L (nx L a + 1)) (nI (nx L (nx L a + 1)))) := w2
    rw [w2', Option.bind_some]
    exact ⟨_, fr_298 (mErr_f (Or.inl rfl)) _ _ _ _ _ _ _⟩
  · have w1' : f_X7_want z 120 = _ := w1.2 c1
    rw [w1', Option.bind_some, fr_want (mErr_f (Or.inl rfl)), Option.bind_some]
    exact ⟨_, fr_298 (mErr_f (Or.inl rfl)) _ _ _ _ _ _ _⟩
def mst {α : Type} (r : Except Flt α) (o : Option MdS) (z : MdS) (ok : α → Option MdS) : Prop :=
  (∀ x, r = .ok x → o = ok x) ∧ (∀ e, r = .error e → ∃ x, o = some (mErr z e x))
set_option maxHeartbeats 1000000 in
set_option maxRecDepth 100000 in
theorem pCnt_err {a : Nat} {e : Flt} (h : pCnt L a = .error e) : e.1 = -2 ∨ e.1 = -3 := by
  unfold pCnt at h
  split at h
  · exact numR_err h
  · exact absurd h (by simp)
set_option maxHeartbeats 1000000 in
set_option maxRecDepth 100000 in
theorem m_215 (g : gdL L) {a kd : Nat} {z : MdS} (hM : lM z L) (hz : gM_fault z = 0) (ha : a + 1 ≤ L.1) (h : gM_at z = nI a) (x1 : Int32) (x2 x4 : Int64) (x6 : Int32) :
    mst (pMul L kd (a + 1)) (f_X7_readTerm_215 z x1 x2 x4 x6 1 (nI kd)) z (fun f => f_X7_readTerm_320 (uM_at z (nI f.1)) x1 x2 x4 x6 (nI f.2.1) (I32 f.2.2)) := by
  unfold mst f_X7_readTerm_215 pMul
  rw [h, nI_add1]
  have hM1 : lM (uM_at z (nI (a + 1))) L := hM
  have w1 := m_want g hM1 hz ha rfl (c := 40) (by omega)
  by_cases c1 : chL L (nx L (a + 1)) = 40
  · have l1 := chIn c1 (by omega)
    have w1' : f_X7_want (uM_at z (nI (a + 1))) 40 = some (uM_at z (nI (nx L (a + 1) + 1))) := w1.1 c1
    rw [w1', Option.bind_some, if_pos c1]
    generalize nx L (a + 1) + 1 = b at *
    have hM2 : lM (uM_at z (nI b)) L := hM
    have s1 := m_sign g hM2 hz l1 rfl
    have s1' : f_X7_takes (uM_at z (nI b)) 45 = some ((if bl L b then 1 else 0), uM_at z (nI (sgA L b))) := s1
    rw [s1', Option.bind_some, if_neg (show ¬ ¬ gM_fault (uM_at z (nI (sgA L b))) = 0 from fun e => e hz)]
    have l2 := sgA_le l1
    have hM3 : lM (uM_at z (nI (sgA L b))) L := hM
    have n1 : f_X7_next (uM_at z (nI (sgA L b))) = some (nI (chL L (nx L (sgA L b))), uM_at z (nI (nx L (sgA L b)))) := m_next g hM3 l2 rfl
    rw [n1, Option.bind_some, (c_digit (chL_lt g _)).2, Option.bind_some]
    have l3 := nx_le l2
    have fin : ∀ (r : Nat × Nat), r.2 ≤ L.1 → mst (if chL L (nx L r.2) = 120 then (if chL L (nx L (nx L r.2 + 1)) = 41 then (.ok (nx L (nx L r.2 + 1) + 1, kd, sgV L b r.1) : Except Flt (Nat × Nat × Int)) else .error (-2, nx L (nx L r.2 + 1))) else .error (-2, nx L r.2)) (f_X7_readTerm_269 (uM_at z (nI r.2)) x1 x2 x4 x6 (nI kd) 1 (if bl L b then 1 else 0) (nI r.1)) z (fun f => f_X7_readTerm_320 (uM_at z (nI f.1)) x1 x2 x4 x6 (nI f.2.1) (I32 f.2.2)) := by
      intro r hr
      have hM4 : lM (uM_at z (nI r.2)) L := hM
      have e269 : f_X7_readTerm_269 (uM_at z (nI r.2)) x1 x2 x4 x6 (nI kd) 1 (if bl L b then 1 else 0) (nI r.1) = f_X7_readTerm_284 (uM_at z (nI r.2)) x1 x2 x4 x6 (nI kd) 1 (I32 (sgV L b r.1)) := by
        unfold f_X7_readTerm_269 sgV
        by_cases c3 : bl L b
        · rw [if_pos c3, if_neg (show ¬ (1 : Int32) = 0 by decide), if_pos c3, ← I32_nI r.1, I32_neg]
        · rw [if_neg c3, if_pos rfl, if_neg c3, I32_nI r.1]
      rw [e269]
      obtain ⟨q1, q2, q3⟩ := m_284 g hM4 hz hr rfl x1 x2 x4 x6 (nI kd) (I32 (sgV L b r.1))
      unfold mst
      by_cases d1 : chL L (nx L r.2) = 120
      · rw [if_pos d1]
        by_cases d2 : chL L (nx L (nx L r.2 + 1)) = 41
        · rw [if_pos d2]
          refine ⟨fun x hx => ?_, fun e he => by simp at he⟩
          injection hx with hx; subst hx
          exact q1 d1 d2
        · rw [if_neg d2]
          refine ⟨fun x hx => by simp at hx, fun e he => ?_⟩
          injection he with he; subst he
          exact q2 d1 d2
      · rw [if_neg d1]
        refine ⟨fun x hx => by simp at hx, fun e he => ?_⟩
        injection he with he; subst he
        exact q3 d1
    unfold pCnt
    by_cases c : isD (chL L (nx L (sgA L b)))
    · rw [if_pos c, if_pos c, if_neg (show ¬ (1 : Int32) = 0 by decide)]
      have hM5 : lM (uM_at z (nI (nx L (sgA L b)))) L := hM
      have hn := m_num g hM5 hz l3 rfl (le := 0) (mo := 9) (x2 := 9) (by omega) (Or.inl ⟨rfl, by omega⟩)
      cases hnr : numR L 0 9 (nx L (sgA L b)) with
      | error e =>
        obtain ⟨v, x, hx⟩ := hn.2 e hnr
        have hx' : f_X7_readNumber (uM_at z (nI (nx L (sgA L b)))) 0 9 = some (v, mErr z e x) := hx
        rw [hx', Option.bind_some]
        refine ⟨fun x hx => by simp at hx, fun e' he => ?_⟩
        injection he with he; subst he
        exact ⟨x, fr_269 (mErr_f (numR_err hnr)) _ _ _ _ _ _ _ _⟩
      | ok r =>
        have hx' : f_X7_readNumber (uM_at z (nI (nx L (sgA L b)))) 0 9 = some (nI r.1, uM_at z (nI r.2)) := hn.1 r hnr
        rw [hx', Option.bind_some]
        exact fin r (numR_ok l3 hnr).2.2.2
    · rw [if_neg c, if_neg c, if_pos rfl]
      exact fin (1, nx L (sgA L b)) l3
  · have w1' : f_X7_want (uM_at z (nI (a + 1))) 40 = some (mErr z (-2, nx L (a + 1)) (nI (nx L (a + 1)))) := w1.2 c1
    rw [w1', Option.bind_some, if_neg c1]
    refine ⟨fun x hx => by simp at hx, fun e he => ?_⟩
    injection he with he; subst he
    rw [fr_takes (mErr_f (Or.inl rfl)), Option.bind_some, if_pos (mErr_f (Or.inl rfl)), fr_268 (mErr_f (Or.inl rfl))]
    exact ⟨_, rfl⟩
set_option maxHeartbeats 1000000 in
set_option maxRecDepth 100000 in
theorem m_112 (g : gdL L) {a : Nat} {z : MdS} (hM : lM z L) (hz : gM_fault z = 0) (ha : a ≤ L.1) (h : gM_at z = nI a) (x1 : Int32) (x2 x4 : Int64) (x6 x9 : Int32) :
    (∀ f, pFun L a = .ok f → (f.2.1 ≠ 0 ∨ ¬ x9 = 0) → f_X7_readTerm_112 z x1 x2 x4 x6 0 0 x9 = f_X7_readTerm_320 (uM_at z (nI f.1)) x1 x2 x4 x6 (nI f.2.1) (I32 f.2.2)) ∧
    (∀ f, pFun L a = .ok f → f.2.1 = 0 → x9 = 0 → ∃ x, f_X7_readTerm_112 z x1 x2 x4 x6 0 0 x9 = some (mErr z (-2, f.1) x)) ∧
    (∀ e, pFun L a = .error e → ∃ x, f_X7_readTerm_112 z x1 x2 x4 x6 0 0 x9 = some (mErr z e x)) := by
  have hxa := nx_le ha
  have hxx := nx_nx ha
  unfold f_X7_readTerm_112 pFun
  have e1 : f_X7_takes z 108 = _ := m_takes g hM hz ha h (c := 108) (by omega)
  rw [e1]
  by_cases c1 : chL L (nx L a) = 108
  · have l1 := chIn c1 (by omega)
    rw [if_pos c1, if_pos c1, Option.bind_some, if_neg (show ¬ (1 : Int32) = 0 by decide)]
    have hM1 : lM (uM_at z (nI (nx L a + 1))) L := hM
    have e2 : f_X7_takes (uM_at z (nI (nx L a + 1))) 94 = _ := m_takes g hM1 hz l1 rfl (c := 94) (by omega)
    rw [e2]
    unfold pLog
    by_cases c2 : chL L (nx L (nx L a + 1)) = 94
    · have l2 := chIn c2 (by omega)
      rw [if_pos c2, if_pos c2, Option.bind_some, if_neg (show ¬ (1 : Int32) = 0 by decide)]
      have hM2 : lM (uM_at z (nI (nx L (nx L a + 1) + 1))) L := hM
      have hn := m_num g hM2 hz l2 rfl (le := 0) (mo := 9) (x2 := 9) (by omega) (Or.inl ⟨rfl, by omega⟩)
      cases hnr : numR L 0 9 (nx L (nx L a + 1) + 1) with
      | error e =>
        obtain ⟨v, x, hx⟩ := hn.2 e hnr
        have hx' : f_X7_readNumber (uM_at (uM_at z (nI (nx L a + 1))) (nI (nx L (nx L a + 1) + 1))) 0 9 = some (v, mErr z e x) := hx
        rw [hx', Option.bind_some]
        refine ⟨fun f hf => by simp at hf, fun f hf => by simp at hf, fun e' he => ?_⟩
        injection he with he; subst he
        exact ⟨x, fr_298 (mErr_f (numR_err hnr)) _ _ _ _ _ _ _⟩
      | ok r =>
        have hx' : f_X7_readNumber (uM_at (uM_at z (nI (nx L a + 1))) (nI (nx L (nx L a + 1) + 1))) 0 9 = some (nI r.1, uM_at z (nI r.2)) := hn.1 r hnr
        rw [hx', Option.bind_some]
        refine ⟨fun f hf _ => ?_, fun f hf h0 => ?_, fun e' he => by simp at he⟩
        · injection hf with hf; subst hf
          rw [(m_298 (z := uM_at z (nI r.2)) hz x1 x2 x4 x6 1 (nI r.1) 1).1 (by decide)]
          show _ = f_X7_readTerm_320 (uM_at z (nI r.2)) x1 x2 x4 x6 1 (I32 (r.1 : Int))
          rw [I32_nI]
        · injection hf with hf; subst hf
          exact absurd h0 (by simp)
    · rw [if_neg c2, if_neg c2, Option.bind_some, if_pos rfl]
      refine ⟨fun f hf _ => ?_, fun f hf h0 => ?_, fun e' he => by simp at he⟩
      · injection hf with hf; subst hf
        exact (m_298 (z := uM_at z (nI (nx L (nx L a + 1)))) hz x1 x2 x4 x6 1 1 1).1 (by decide)
      · injection hf with hf; subst hf
        exact absurd h0 (by simp)
  · rw [if_neg c1, if_neg c1, Option.bind_some, if_pos rfl, if_neg (show ¬ ¬ gM_fault (uM_at z (nI (nx L a))) = 0 from fun e => e hz)]
    have hM1 : lM (uM_at z (nI (nx L a))) L := hM
    have n1 : f_X7_next (uM_at z (nI (nx L a))) = some (nI (chL L (nx L a)), uM_at z (nI (nx L a))) := by
      have := m_next g hM1 hxa rfl
      rw [hxx] at this; exact this
    have e101 : nI (chL L (nx L a)) = 101 ↔ chL L (nx L a) = 101 := eq_ch g _ (c := 101) (by omega)
    have e115 : nI (chL L (nx L a)) = 115 ↔ chL L (nx L a) = 115 := eq_ch g _ (c := 115) (by omega)
    have e99 : nI (chL L (nx L a)) = 99 ↔ chL L (nx L a) = 99 := eq_ch g _ (c := 99) (by omega)
    have br : ∀ kd, 2 ≤ kd → nx L a + 1 ≤ L.1 → f_X7_readTerm_185 (uM_at z (nI (nx L a))) x1 x2 x4 x6 = f_X7_readTerm_215 (uM_at z (nI (nx L a))) x1 x2 x4 x6 1 (nI kd) →
        (∀ f, pMul L kd (nx L a + 1) = .ok f → (f.2.1 ≠ 0 ∨ ¬ x9 = 0) → f_X7_readTerm_185 (uM_at z (nI (nx L a))) x1 x2 x4 x6 = f_X7_readTerm_320 (uM_at z (nI f.1)) x1 x2 x4 x6 (nI f.2.1) (I32 f.2.2)) ∧
        (∀ f, pMul L kd (nx L a + 1) = .ok f → f.2.1 = 0 → x9 = 0 → ∃ x, f_X7_readTerm_185 (uM_at z (nI (nx L a))) x1 x2 x4 x6 = some (mErr z (-2, f.1) x)) ∧
        (∀ e, pMul L kd (nx L a + 1) = .error e → ∃ x, f_X7_readTerm_185 (uM_at z (nI (nx L a))) x1 x2 x4 x6 = some (mErr z e x)) := by
      intro kd k2 hl he
      rw [he]
      obtain ⟨q1, q2⟩ := m_215 g (kd := kd) hM1 hz hl rfl x1 x2 x4 x6
      refine ⟨fun f hf _ => q1 f hf, fun f hf h0 => ?_, fun e he => q2 e he⟩
      have := (pMul_ok hl hf).2.2.1
      omega
    rw [n1, Option.bind_some]
    have e185 : f_X7_readTerm_185 (uM_at z (nI (nx L a))) x1 x2 x4 x6 = (if ¬ nI (chL L (nx L a)) = 101 then (if ¬ nI (chL L (nx L a)) = 115 then f_X7_readTerm_215 (uM_at z (nI (nx L a))) x1 x2 x4 x6 1 4 else f_X7_readTerm_215 (uM_at z (nI (nx L a))) x1 x2 x4 x6 1 3) else f_X7_readTerm_215 (uM_at z (nI (nx L a))) x1 x2 x4 x6 1 2) := by
      unfold f_X7_readTerm_185
      rw [n1, Option.bind_some, n1, Option.bind_some]
    by_cases c2 : chL L (nx L a) = 101
    · rw [if_pos (e101.mpr c2), if_pos c2]
      exact br 2 (by omega) (chIn c2 (by omega)) (by rw [e185, if_neg (fun e => e (e101.mpr c2))]; rfl)
    rw [if_neg (fun e => c2 (e101.mp e)), if_neg c2, n1, Option.bind_some]
    by_cases c3 : chL L (nx L a) = 115
    · rw [if_pos (e115.mpr c3), if_pos c3]
      exact br 3 (by omega) (chIn c3 (by omega)) (by rw [e185, if_pos (fun e => c2 (e101.mp e)), if_neg (fun e => e (e115.mpr c3))]; rfl)
    rw [if_neg (fun e => c3 (e115.mp e)), if_neg c3, n1, Option.bind_some]
    by_cases c4 : chL L (nx L a) = 99
    · rw [if_pos c4, if_neg (show ¬ ¬ nI (chL L (nx L a)) = 99 from fun e => e (e99.mpr c4))]
      exact br 4 (by omega) (chIn c4 (by omega)) (by rw [e185, if_pos (fun e => c2 (e101.mp e)), if_pos (fun e => c3 (e115.mp e))]; rfl)
    rw [if_neg c4, if_pos (show ¬ nI (chL L (nx L a)) = 99 from fun e => c4 (e99.mp e))]
    obtain ⟨q1, q2⟩ := m_298 (z := uM_at z (nI (nx L a))) hz x1 x2 x4 x6 0 0 x9
    refine ⟨fun f hf hh => ?_, fun f hf h0 h9 => ?_, fun e he => by simp at he⟩
    · injection hf with hf; subst hf
      have : ¬ x9 = 0 := by
        rcases hh with hh | hh
        · exact absurd rfl hh
        · exact hh
      exact q1 this
    · injection hf with hf; subst hf
      exact ⟨_, q2 h9⟩
end MT2
section MT3
variable {L : Ln}
set_option maxHeartbeats 1000000 in
set_option maxRecDepth 100000 in
theorem m_56 (g : gdL L) {a : Nat} {z : MdS} (hM : lM z L) (hz : gM_fault z = 0) (ha : a ≤ L.1) (h : gM_at z = nI a) (x1 : Int32) (x2 x4 : Int64) (x9 : Int32) :
    (∀ p f, pPow L a = .ok p → pFun L p.1 = .ok f → (chL L (nx L a) = 120 ∨ f.2.1 ≠ 0 ∨ ¬ x9 = 0) → f_X7_readTerm_56 z x1 x2 x4 0 0 0 x9 = f_X7_readTerm_320 (uM_at z (nI f.1)) x1 x2 x4 (I32 p.2) (nI f.2.1) (I32 f.2.2)) ∧
    (∀ p f, pPow L a = .ok p → pFun L p.1 = .ok f → ¬ chL L (nx L a) = 120 → f.2.1 = 0 → x9 = 0 → ∃ x, f_X7_readTerm_56 z x1 x2 x4 0 0 0 x9 = some (mErr z (-2, f.1) x)) ∧
    (∀ e, pPow L a = .error e → ∃ x, f_X7_readTerm_56 z x1 x2 x4 0 0 0 x9 = some (mErr z e x)) ∧
    (∀ p e, pPow L a = .ok p → pFun L p.1 = .error e → ∃ x, f_X7_readTerm_56 z x1 x2 x4 0 0 0 x9 = some (mErr z e x)) := by
  unfold f_X7_readTerm_56 pPow
  have e1 : f_X7_takes z 120 = _ := m_takes g hM hz ha h (c := 120) (by omega)
  rw [e1]
  have hone : ¬ (1 : Int32) = 0 := by decide
  have aft : ∀ (b : Nat) (w : Int), b ≤ L.1 →
      (∀ f, pFun L b = .ok f → f_X7_readTerm_112 (uM_at z (nI b)) x1 x2 x4 (I32 w) 0 0 1 = f_X7_readTerm_320 (uM_at z (nI f.1)) x1 x2 x4 (I32 w) (nI f.2.1) (I32 f.2.2)) ∧
      (∀ e, pFun L b = .error e → ∃ x, f_X7_readTerm_112 (uM_at z (nI b)) x1 x2 x4 (I32 w) 0 0 1 = some (mErr z e x)) := by
    intro b w hb
    have hM1 : lM (uM_at z (nI b)) L := hM
    obtain ⟨q1, q2, q3⟩ := m_112 g hM1 hz hb rfl x1 x2 x4 (I32 w) 1
    exact ⟨fun f hf => q1 f hf (Or.inr hone), fun e he => q3 e he⟩
  by_cases c1 : chL L (nx L a) = 120
  · have l1 := chIn c1 (by omega)
    rw [if_pos c1, if_pos c1, Option.bind_some, if_neg hone]
    have hM1 : lM (uM_at z (nI (nx L a + 1))) L := hM
    have e2 : f_X7_takes (uM_at z (nI (nx L a + 1))) 94 = _ := m_takes g hM1 hz l1 rfl (c := 94) (by omega)
    rw [e2]
    by_cases c2 : chL L (nx L (nx L a + 1)) = 94
    · have l2 := chIn c2 (by omega)
      rw [if_pos c2, if_pos c2, Option.bind_some, if_neg hone]
      generalize nx L (nx L a + 1) + 1 = b at *
      have hM2 : lM (uM_at z (nI b)) L := hM
      have s1 := m_sign g hM2 hz l2 rfl
      have s1' : f_X7_takes (uM_at (uM_at z (nI (nx L a + 1))) (nI b)) 45 = some ((if bl L b then 1 else 0), uM_at z (nI (sgA L b))) := s1
      rw [s1', Option.bind_some]
      have l3 := sgA_le l2
      have hM3 : lM (uM_at z (nI (sgA L b))) L := hM
      have hn := m_num g hM3 hz l3 rfl (le := 0) (mo := 12) (x2 := 12) (by omega) (Or.inl ⟨rfl, by omega⟩)
      cases hnr : numR L 0 12 (sgA L b) with
      | error e =>
        obtain ⟨v, x, hx⟩ := hn.2 e hnr
        have hx' : f_X7_readNumber (uM_at z (nI (sgA L b))) 0 12 = some (v, mErr z e x) := hx
        rw [hx', Option.bind_some]
        refine ⟨fun p f hp => by simp at hp, fun p f hp => by simp at hp, fun e' he => ?_, fun p e hp => by simp at hp⟩
        injection he with he; subst he
        refine ⟨x, ?_⟩
        have hf := mErr_f (z := z) (x := x) (numR_err hnr)
        rw [fr_110 hf, fr_110 hf, ite_self]
      | ok r =>
        have hx' : f_X7_readNumber (uM_at z (nI (sgA L b))) 0 12 = some (nI r.1, uM_at z (nI r.2)) := hn.1 r hnr
        rw [hx', Option.bind_some]
        have hr := numR_ok l3 hnr
        have e110 : (if (if bl L b then (1 : Int32) else 0) = 0 then f_X7_readTerm_110 (uM_at z (nI r.2)) x1 x2 x4 0 0 1 (nI r.1) else f_X7_readTerm_110 (uM_at z (nI r.2)) x1 x2 x4 0 0 1 (-(nI r.1))) = f_X7_readTerm_112 (uM_at z (nI r.2)) x1 x2 x4 (I32 (sgV L b r.1)) 0 0 1 := by
          unfold f_X7_readTerm_110 sgV
          by_cases c3 : bl L b
          · rw [if_pos c3, if_neg hone, if_pos c3, ← I32_nI r.1, I32_neg]
          · rw [if_neg c3, if_pos rfl, if_neg c3, I32_nI r.1]
        have e110' := e110
        obtain ⟨q1, q2⟩ := aft r.2 (sgV L b r.1) hr.2.2.2
        refine ⟨fun p f hp hf _ => ?_, fun p f hp hf hc => ?_, fun e' he => by simp at he, fun p e hp he => ?_⟩
        · injection hp with hp; subst hp
          exact e110.trans (q1 f hf)
        · exact absurd c1 hc
        · injection hp with hp; subst hp
          obtain ⟨x, hx⟩ := q2 e he
          exact ⟨x, e110.trans hx⟩
    · rw [if_neg c2, if_neg c2, Option.bind_some, if_pos rfl]
      obtain ⟨q1, q2⟩ := aft (nx L (nx L a + 1)) 1 (nx_le l1)
      refine ⟨fun p f hp hf _ => ?_, fun p f hp hf hc => ?_, fun e' he => by simp at he, fun p e hp he => ?_⟩
      · injection hp with hp; subst hp
        exact q1 f hf
      · exact absurd c1 hc
      · injection hp with hp; subst hp
        exact q2 e he
  · rw [if_neg c1, if_neg c1, Option.bind_some, if_pos rfl]
    have hM1 : lM (uM_at z (nI (nx L a))) L := hM
    obtain ⟨q1, q2, q3⟩ := m_112 g hM1 hz (nx_le ha) rfl x1 x2 x4 0 x9
    refine ⟨fun p f hp hf hh => ?_, fun p f hp hf _ h0 h9 => ?_, fun e' he => by simp at he, fun p e hp he => ?_⟩
    · injection hp with hp; subst hp
      have : f.2.1 ≠ 0 ∨ ¬ x9 = 0 := by
        rcases hh with hh | hh
        · exact absurd hh c1
        · exact hh
      exact q1 f hf this
    · injection hp with hp; subst hp
      exact q2 f hf h0 h9
    · injection hp with hp; subst hp
      exact q3 e he
set_option maxHeartbeats 1000000 in
set_option maxRecDepth 100000 in
theorem m_term (g : gdL L) {a : Nat} {z : MdS} (hM : lM z L) (hz : gM_fault z = 0) (ha : a ≤ L.1) (h : gM_at z = nI a) (below : Int32) :
    mst (pTerm L a) (f_X7_readTerm z below) z (fun x => f_X7_readTerm_320 (uM_at z (nI x.1)) below (I64 (x.2.1.1 : Int)) (I64 (x.2.1.2 : Int)) (I32 x.2.2.1) (nI x.2.2.2.1) (I32 x.2.2.2.2)) := by
  have hxa := nx_le ha
  have hone : ¬ (1 : Int32) = 0 := by decide
  have rest : ∀ (b t m : Nat) (x9 : Int32), b ≤ L.1 → (¬ x9 = 0 → nx L a < b) → (x9 = 0 → b = nx L a) →
      mst (match pPow L b with
        | .error e => (.error e : Except Flt (Nat × (Nat × Nat) × Int × Nat × Int))
        | .ok p => match pFun L p.1 with
          | .error e => .error e
          | .ok f => if nx L a < f.1 then .ok (f.1, (t, m), p.2, f.2.1, f.2.2) else .error (-2, f.1)) (f_X7_readTerm_56 (uM_at z (nI b)) below (I64 (t : Int)) (I64 (m : Int)) 0 0 0 x9) z (fun x => f_X7_readTerm_320 (uM_at z (nI x.1)) below (I64 (x.2.1.1 : Int)) (I64 (x.2.1.2 : Int)) (I32 x.2.2.1) (nI x.2.2.2.1) (I32 x.2.2.2.2)) := by
    intro b t m x9 hb h9 h9'
    have hM1 : lM (uM_at z (nI b)) L := hM
    obtain ⟨q1, q2, q3, q4⟩ := m_56 g hM1 hz hb rfl below (I64 (t : Int)) (I64 (m : Int)) x9
    unfold mst
    have gb := nx_ge L b
    cases hp : pPow L b with
    | error e =>
      refine ⟨fun x hx => by simp at hx, fun e' he => ?_⟩
      injection he with he; subst he
      exact q3 e hp
    | ok p =>
      obtain ⟨p1, p2, p3, p4⟩ := pPow_ok hb hp
      have gp := nx_ge L p.1
      cases hf : pFun L p.1 with
      | error e =>
        refine ⟨fun x hx => ?_, fun e' he => ?_⟩
        · simp only [hf] at hx; simp at hx
        · simp only [hf] at he
          injection he with he; subst he
          exact q4 p e hp hf
      | ok f =>
        obtain ⟨f1, f2, f3, f4, f5, f6, f7⟩ := pFun_ok p2 hf
        by_cases cons : chL L (nx L b) = 120 ∨ f.2.1 ≠ 0 ∨ ¬ x9 = 0
        · have hlt : nx L a < f.1 := by
            by_cases x0 : x9 = 0
            · have := h9' x0
              have := nx_nx ha
              rcases cons with d | d | d
              · rcases p4 with y | y
                · exact absurd d y.2.2
                · subst b; omega
              · rcases f7 with y | y
                · exact absurd y.2 d
                · subst b; omega
              · exact absurd x0 d
            · have := h9 x0; omega
          refine ⟨fun x hx => ?_, fun e' he => ?_⟩
          · simp only [hf, if_pos hlt] at hx
            injection hx with hx; subst hx
            exact q1 p f hp hf cons
          · simp only [hf, if_pos hlt] at he; simp at he
        · have c1 : ¬ chL L (nx L b) = 120 := fun e => cons (Or.inl e)
          have c2 : f.2.1 = 0 := by
            apply Classical.byContradiction; exact fun e => cons (Or.inr (Or.inl e))
          have c3 : x9 = 0 := by
            apply Classical.byContradiction; exact fun e => cons (Or.inr (Or.inr e))
          have hlt : ¬ nx L a < f.1 := by
            have e1 := h9' c3
            have e2 := nx_nx ha
            rcases p4 with y | y
            · rcases f7 with w | w
              · have e3 : p.1 = nx L a := by rw [y.1, e1, e2]
                have e4 : f.1 = nx L a := by rw [w.1, e3, e2]
                omega
              · exact absurd c2 w.2.1
            · exact absurd y.2.1 c1
          refine ⟨fun x hx => ?_, fun e' he => ?_⟩
          · simp only [hf, if_neg hlt] at hx; simp at hx
          · simp only [hf, if_neg hlt] at he
            injection he with he; subst he
            exact q2 p f hp hf c1 c2 c3
  unfold f_X7_readTerm pTerm pCoef
  rw [m_next g hM ha h, Option.bind_some, (c_digit (chL_lt g _)).2, Option.bind_some]
  by_cases c : isD (chL L (nx L a))
  · rw [if_pos c, if_pos c, if_neg hone]
    have hd := digs_lt L 3 (nx L a) 0
    have hd' : (digs L 3 (nx L a) 0).1 < 1000 := by have : (0 + 1) * 10 ^ 3 = 1000 := by decide
                                                    omega
    have hd2 := (digs_le (L := L) 3 (nx L a) 0 hxa).2
    have hd3 : nx L a < (digs L 3 (nx L a) 0).2 := digs_gt c
    have hok : numR L 0 999 (nx L a) = .ok (digs L 3 (nx L a) 0) := by
      unfold numR; rw [nx_nx ha, if_pos c, if_neg (by omega)]
    have hM1 : lM (uM_at z (nI (nx L a))) L := hM
    have e1 := (m_num g hM1 hz hxa rfl (le := 0) (mo := 999) (x2 := -1) (by omega) (Or.inr ⟨rfl, rfl⟩)).1 _ hok
    have e1' : f_X7_readNumber (uM_at z (nI (nx L a))) 0 (-1) = some (nI (digs L 3 (nx L a) 0).1, uM_at z (nI (digs L 3 (nx L a) 0).2)) := e1
    rw [e1', Option.bind_some]
    generalize digs L 3 (nx L a) 0 = D at *
    have hM2 : lM (uM_at z (nI D.2)) L := hM
    have e2 : f_X7_takes (uM_at z (nI D.2)) 47 = _ := m_takes g hM2 hz hd2 rfl (c := 47) (by omega)
    have gD := nx_ge L D.2
    rw [e2]
    by_cases c2 : chL L (nx L D.2) = 47
    · have l2 := chIn c2 (by omega)
      rw [if_pos c2, if_pos c2, Option.bind_some, if_neg hone]
      have hM3 : lM (uM_at z (nI (nx L D.2 + 1))) L := hM
      have hn := m_num g hM3 hz l2 rfl (le := 1) (mo := 999) (x2 := -1) (by omega) (Or.inr ⟨rfl, rfl⟩)
      cases hnr : numR L 1 999 (nx L D.2 + 1) with
      | error e =>
        obtain ⟨v, x, hx⟩ := hn.2 e hnr
        have hx' : f_X7_readNumber (uM_at (uM_at z (nI D.2)) (nI (nx L D.2 + 1))) 1 (-1) = some (v, mErr z e x) := hx
        rw [hx', Option.bind_some]
        refine ⟨fun x hx => by simp at hx, fun e' he => ?_⟩
        injection he with he; subst he
        exact ⟨x, fr_56 (mErr_f (numR_err hnr)) _ _ _ _ _ _ _⟩
      | ok r =>
        have hr := numR_ok l2 hnr
        have hx' : f_X7_readNumber (uM_at (uM_at z (nI D.2)) (nI (nx L D.2 + 1))) 1 (-1) = some (nI r.1, uM_at z (nI r.2)) := hn.1 r hnr
        rw [hx', Option.bind_some, toInt64_n (by omega), toInt64_n (by omega)]
        have g2 := nx_ge L (nx L D.2 + 1)
        exact rest r.2 D.1 r.1 1 hr.2.2.2 (fun _ => by omega) (fun e => absurd e hone)
    · rw [if_neg c2, if_neg c2, Option.bind_some, if_pos rfl, toInt64_n (by omega)]
      exact rest (nx L D.2) D.1 1 1 (nx_le hd2) (fun _ => by omega) (fun e => absurd e hone)
  · rw [if_neg c, if_neg c, if_pos rfl]
    exact rest (nx L a) 1 1 0 hxa (fun e => absurd rfl e) (fun _ => rfl)
end MT3
