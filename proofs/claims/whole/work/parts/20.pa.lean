def I64 (x : Int) : Int64 := Int64.ofInt x
def I32 (x : Int) : Int32 := Int32.ofInt x
set_option maxHeartbeats 1000000 in
set_option maxRecDepth 100000 in
theorem I32_nI (n : Nat) : I32 (n : Int) = nI n := Int32.ofInt_eq_ofNat
set_option maxHeartbeats 1000000 in
set_option maxRecDepth 100000 in
theorem qI_toInt {n : Nat} (h : n < 2147483648) : (nI n).toInt = n := by
  rw [← I32_nI]; unfold I32
  exact Int32.toInt_ofInt_of_le (by simp <;> omega) (by simp <;> omega)
set_option maxHeartbeats 1000000 in
set_option maxRecDepth 100000 in
theorem nI_nat {n : Nat} (h : n < 2147483648) : (nI n).toNatClampNeg = n := by
  rw [← Int32.toNat_toInt, qI_toInt h, Int.toNat_natCast]
set_option maxHeartbeats 1000000 in
set_option maxRecDepth 100000 in
theorem qI_lt {n m : Nat} (h : n < 2147483648) (h' : m < 2147483648) : nI n < nI m ↔ n < m := by
  rw [Int32.lt_iff_toInt_lt, qI_toInt h, qI_toInt h']; omega
set_option maxHeartbeats 1000000 in
set_option maxRecDepth 100000 in
theorem qI_le {n m : Nat} (h : n < 2147483648) (h' : m < 2147483648) : nI n ≤ nI m ↔ n ≤ m := by
  rw [Int32.le_iff_toInt_le, qI_toInt h, qI_toInt h']; omega
set_option maxHeartbeats 1000000 in
set_option maxRecDepth 100000 in
theorem nI_inj {n m : Nat} (h : n < 2147483648) (h' : m < 2147483648) : nI n = nI m ↔ n = m := by
  rw [← Int32.toInt_inj, qI_toInt h, qI_toInt h']; omega
set_option maxHeartbeats 1000000 in
set_option maxRecDepth 100000 in
theorem inb_nI {n N : Nat} (h : n < 2147483648) : inb (nI n) N = true ↔ n < N := by
  unfold inb; rw [qI_toInt h, decide_eq_true_iff]; omega
set_option maxHeartbeats 1000000 in
set_option maxRecDepth 100000 in
theorem qI_add (n m : Nat) : nI n + nI m = nI (n + m) := (Int32.ofNat_add n m).symm
set_option maxHeartbeats 1000000 in
set_option maxRecDepth 100000 in
theorem nI_add1 (n : Nat) : nI n + 1 = nI (n + 1) := qI_add n 1
set_option maxHeartbeats 1000000 in
set_option maxRecDepth 100000 in
theorem nI_mul (n m : Nat) : nI n * nI m = nI (n * m) := (Int32.ofNat_mul n m).symm
set_option maxHeartbeats 1000000 in
set_option maxRecDepth 100000 in
theorem I32_add (a b : Int) : I32 a + I32 b = I32 (a + b) := (Int32.ofInt_add a b).symm
set_option maxHeartbeats 1000000 in
set_option maxRecDepth 100000 in
theorem I32_sub (a b : Int) : I32 a - I32 b = I32 (a - b) := (Int32.ofInt_sub a b).symm
set_option maxHeartbeats 1000000 in
set_option maxRecDepth 100000 in
theorem I32_mul (a b : Int) : I32 a * I32 b = I32 (a * b) := (Int32.ofInt_mul a b).symm
set_option maxHeartbeats 1000000 in
set_option maxRecDepth 100000 in
theorem I32_neg (a : Int) : - I32 a = I32 (- a) := (Int32.ofInt_neg a).symm
set_option maxHeartbeats 1000000 in
set_option maxRecDepth 100000 in
theorem nI_sub {n m : Nat} (h : m ≤ n) : nI n - nI m = nI (n - m) := by
  rw [← I32_nI, ← I32_nI, I32_sub, ← I32_nI]; congr 1; omega
set_option maxHeartbeats 1000000 in
set_option maxRecDepth 100000 in
theorem nI_sub1 {n : Nat} (h : 0 < n) : nI n - 1 = nI (n - 1) := nI_sub h
set_option maxHeartbeats 1000000 in
set_option maxRecDepth 100000 in
theorem nI_addm1 {n : Nat} (h : 0 < n) : nI n + (-1) = nI (n - 1) := by
  have : nI n + (-1) = nI n - 1 := by rw [Int32.sub_eq_add_neg]
  rw [this, nI_sub1 h]
set_option maxHeartbeats 1000000 in
set_option maxRecDepth 100000 in
theorem I32_toInt {x : Int} (h : -2147483648 ≤ x) (h' : x < 2147483648) : (I32 x).toInt = x := by
  unfold I32; exact Int32.toInt_ofInt_of_le (by simp <;> omega) (by simp <;> omega)
set_option maxHeartbeats 1000000 in
set_option maxRecDepth 100000 in
theorem I32_of (x : Int32) : I32 x.toInt = x := Int32.ofInt_toInt x
set_option maxHeartbeats 1000000 in
set_option maxRecDepth 100000 in
theorem I32_lt {a b : Int} (h : -2147483648 ≤ a) (h' : a < 2147483648) (g : -2147483648 ≤ b) (g' : b < 2147483648) : I32 a < I32 b ↔ a < b := by
  rw [Int32.lt_iff_toInt_lt, I32_toInt h h', I32_toInt g g']
set_option maxHeartbeats 1000000 in
set_option maxRecDepth 100000 in
theorem I32_le {a b : Int} (h : -2147483648 ≤ a) (h' : a < 2147483648) (g : -2147483648 ≤ b) (g' : b < 2147483648) : I32 a ≤ I32 b ↔ a ≤ b := by
  rw [Int32.le_iff_toInt_le, I32_toInt h h', I32_toInt g g']
set_option maxHeartbeats 1000000 in
set_option maxRecDepth 100000 in
theorem I32_inj {a b : Int} (h : -2147483648 ≤ a) (h' : a < 2147483648) (g : -2147483648 ≤ b) (g' : b < 2147483648) : I32 a = I32 b ↔ a = b := by
  rw [← Int32.toInt_inj, I32_toInt h h', I32_toInt g g']
def r64 (x : Int) : Prop := -9223372036854775808 ≤ x ∧ x < 9223372036854775808
set_option maxHeartbeats 1000000 in
set_option maxRecDepth 100000 in
theorem I64_add (a b : Int) : I64 a + I64 b = I64 (a + b) := (Int64.ofInt_add a b).symm
set_option maxHeartbeats 1000000 in
set_option maxRecDepth 100000 in
theorem I64_sub (a b : Int) : I64 a - I64 b = I64 (a - b) := (Int64.ofInt_sub a b).symm
set_option maxHeartbeats 1000000 in
set_option maxRecDepth 100000 in
theorem I64_mul (a b : Int) : I64 a * I64 b = I64 (a * b) := (Int64.ofInt_mul a b).symm
set_option maxHeartbeats 1000000 in
set_option maxRecDepth 100000 in
theorem I64_neg (a : Int) : - I64 a = I64 (- a) := (Int64.ofInt_neg a).symm
set_option maxHeartbeats 1000000 in
set_option maxRecDepth 100000 in
theorem I64_toInt {x : Int} (h : r64 x) : (I64 x).toInt = x := by
  obtain ⟨h, h'⟩ := h
  unfold I64; exact Int64.toInt_ofInt_of_le (by simp <;> omega) (by simp <;> omega)
set_option maxHeartbeats 1000000 in
set_option maxRecDepth 100000 in
theorem I64_of (x : Int64) : I64 x.toInt = x := Int64.ofInt_toInt x
set_option maxHeartbeats 1000000 in
set_option maxRecDepth 100000 in
theorem r64_of (x : Int64) : r64 x.toInt := ⟨Int64.le_toInt x, Int64.toInt_lt x⟩
set_option maxHeartbeats 1000000 in
set_option maxRecDepth 100000 in
theorem I64_ex (x : Int64) : ∃ y, r64 y ∧ x = I64 y := ⟨x.toInt, r64_of x, (I64_of x).symm⟩
set_option maxHeartbeats 1000000 in
set_option maxRecDepth 100000 in
theorem I64_lt {a b : Int} (h : r64 a) (g : r64 b) : I64 a < I64 b ↔ a < b := by
  rw [Int64.lt_iff_toInt_lt, I64_toInt h, I64_toInt g]
set_option maxHeartbeats 1000000 in
set_option maxRecDepth 100000 in
theorem I64_le {a b : Int} (h : r64 a) (g : r64 b) : I64 a ≤ I64 b ↔ a ≤ b := by
  rw [Int64.le_iff_toInt_le, I64_toInt h, I64_toInt g]
set_option maxHeartbeats 1000000 in
set_option maxRecDepth 100000 in
theorem I64_inj {a b : Int} (h : r64 a) (g : r64 b) : I64 a = I64 b ↔ a = b := by
  rw [← Int64.toInt_inj, I64_toInt h, I64_toInt g]
set_option maxHeartbeats 1000000 in
set_option maxRecDepth 100000 in
theorem r64_0 : r64 0 := by unfold r64; omega
set_option maxHeartbeats 1000000 in
set_option maxRecDepth 100000 in
theorem I64_0 : I64 0 = 0 := rfl
set_option maxHeartbeats 1000000 in
set_option maxRecDepth 100000 in
theorem I64_1 : I64 1 = 1 := rfl
set_option maxHeartbeats 1000000 in
set_option maxRecDepth 100000 in
theorem I64_eq0 {a : Int} (h : r64 a) : I64 a = 0 ↔ a = 0 := I64_inj h r64_0
set_option maxHeartbeats 1000000 in
set_option maxRecDepth 100000 in
theorem I64_lt0 {a : Int} (h : r64 a) : I64 a < 0 ↔ a < 0 := I64_lt h r64_0
set_option maxHeartbeats 1000000 in
set_option maxRecDepth 100000 in
theorem I64_gt0 {a : Int} (h : r64 a) : 0 < I64 a ↔ 0 < a := I64_lt r64_0 h
set_option maxHeartbeats 1000000 in
set_option maxRecDepth 100000 in
theorem I64_ge0 {a : Int} (h : r64 a) : 0 ≤ I64 a ↔ 0 ≤ a := I64_le r64_0 h
set_option maxHeartbeats 1000000 in
set_option maxRecDepth 100000 in
theorem I64_div {a b : Int} (h : r64 a) (g : r64 b) (hc : r64 (a.tdiv b)) : I64 a / I64 b = I64 (a.tdiv b) := by
  rw [← Int64.toInt_inj, Int64.toInt_div, I64_toInt h, I64_toInt g, I64_toInt hc]
  obtain ⟨h, h'⟩ := hc
  exact Int.bmod_eq_of_le (by omega) (by omega)
set_option maxHeartbeats 1000000 in
set_option maxRecDepth 100000 in
theorem tdiv_r64 {a b : Int} (h : -9223372036854775808 < a) (h' : a < 9223372036854775808) : r64 (a.tdiv b) := by
  have h1 : (a.tdiv b).natAbs ≤ a.natAbs := by rw [Int.natAbs_tdiv]; exact Nat.div_le_self _ _
  unfold r64; omega
set_option maxHeartbeats 1000000 in
set_option maxRecDepth 100000 in
theorem mabs64_I {a : Int} (h : r64 a) (h' : r64 (-a)) : mabs64 (I64 a) = I64 (a.natAbs : Int) := by
  unfold mabs64
  by_cases c : 0 < a
  · rw [if_pos ((I64_gt0 h).mpr c)]; congr 1; omega
  · rw [if_neg (fun x => c ((I64_gt0 h).mp x)), I64_neg]; congr 1; omega
set_option maxHeartbeats 1000000 in
set_option maxRecDepth 100000 in
theorem fuel_eq : fuel = 12000 := rfl
set_option maxHeartbeats 1000000 in
set_option maxRecDepth 100000 in
theorem nn_r64 {n : Nat} (h : n < 9223372036854775808) : r64 (n : Int) := by unfold r64; omega
set_option maxHeartbeats 1000000 in
set_option maxRecDepth 100000 in
theorem I64n_eq0 {n : Nat} (h : n < 9223372036854775808) : I64 (n : Int) = 0 ↔ n = 0 := by
  rw [I64_eq0 (nn_r64 h)]; omega
set_option maxHeartbeats 1000000 in
set_option maxRecDepth 100000 in
theorem I64_nmod {a b : Nat} (h : a < 9223372036854775808) (h' : b < 9223372036854775808) (hb : b ≠ 0) : I64 a - I64 a / I64 b * I64 b = I64 ((a % b : Nat) : Int) := by
  have e : ((a : Int).tdiv b) = ((a / b : Nat) : Int) := by rw [Int.ofNat_tdiv]
  rw [I64_div (nn_r64 h) (nn_r64 h') (by rw [e]; exact nn_r64 (Nat.lt_of_le_of_lt (Nat.div_le_self _ _) h)), e, I64_mul, I64_sub]
  congr 1
  have := Nat.div_add_mod a b
  have h2 : ((a / b : Nat) : Int) * (b : Int) = ((b * (a / b) : Nat) : Int) := by rw [Nat.mul_comm]; simp
  rw [h2]; omega
set_option maxHeartbeats 1000000 in
set_option maxRecDepth 100000 in
theorem mod_half {b r : Nat} (h : r < b) (h0 : r ≠ 0) : 2 * (b % r) < b := by
  have h1 : b % r < r := Nat.mod_lt _ (Nat.pos_of_ne_zero h0)
  have h2 := Nat.div_add_mod b r
  have h3 : 1 ≤ b / r := (Nat.le_div_iff_mul_le (Nat.pos_of_ne_zero h0)).mpr (by omega)
  have h4 : r * 1 ≤ r * (b / r) := Nat.mul_le_mul_left r h3
  omega
set_option maxHeartbeats 1000000 in
set_option maxRecDepth 100000 in
theorem cd_step {fu : Nat} {a b : Nat} {x : Int32} (ha : a < 9223372036854775808) (hb : b < 9223372036854775808) (h0 : b ≠ 0) (hx : x < 100) :
    f_X4_commonDivisor_3 (fu + 1) (I64 a) (I64 b) x = f_X4_commonDivisor_3 fu (I64 b) (I64 ((a % b : Nat) : Int)) (x + 1) := by
  rw [f_X4_commonDivisor_3, if_neg (by rw [Int32.not_le]; exact hx), if_neg (fun h => h0 ((I64n_eq0 hb).mp h)), if_pos (fun h => h0 ((I64n_eq0 hb).mp h)), Option.bind_some, I64_nmod ha hb h0]
set_option maxHeartbeats 1000000 in
set_option maxRecDepth 100000 in
theorem cd_end {fu : Nat} {a : Int64} {x : Int32} : f_X4_commonDivisor_3 (fu + 1) a 0 x = some a := by
  rw [f_X4_commonDivisor_3]
  by_cases c : (100 : Int32) ≤ x
  · rw [if_pos c]
  · rw [if_neg c, if_pos rfl]
set_option maxHeartbeats 1000000 in
set_option maxRecDepth 100000 in
theorem cd_loop : ∀ (k fu : Nat) (a b x : Nat), a < 9223372036854775808 → b < 9223372036854775808 → b < 2 ^ k → 2 * k + 1 ≤ fu → x + 2 * k ≤ 100 → f_X4_commonDivisor_3 fu (I64 a) (I64 b) (nI x) = some (I64 ((Nat.gcd a b : Nat) : Int)) := by
  intro k
  induction k with
  | zero =>
    intro fu a b x ha hb hk hf hx
    have : b = 0 := by simp at hk; omega
    subst this
    obtain ⟨fu, rfl⟩ : ∃ f, fu = f + 1 := ⟨fu - 1, by omega⟩
    rw [Nat.gcd_zero_right]; exact cd_end
  | succ k ih =>
    intro fu a b x ha hb hk hf hx
    obtain ⟨fu, rfl⟩ : ∃ f, fu = f + 1 := ⟨fu - 1, by omega⟩
    by_cases h0 : b = 0
    · subst h0; rw [Nat.gcd_zero_right]; exact cd_end
    have hx1 : nI x < 100 := (qI_lt (m := 100) (by omega) (by omega)).mpr (by omega)
    rw [cd_step ha hb h0 hx1, nI_add1]
    have hr : a % b < b := Nat.mod_lt _ (Nat.pos_of_ne_zero h0)
    have e1 : Nat.gcd a b = Nat.gcd b (a % b) := by rw [Nat.gcd_comm a b, Nat.gcd_rec, Nat.gcd_comm]
    generalize hrr : a % b = r at *
    obtain ⟨fu, rfl⟩ : ∃ f, fu = f + 1 := ⟨fu - 1, by omega⟩
    by_cases h1 : r = 0
    · subst h1; rw [e1, Nat.gcd_zero_right]; exact cd_end
    have hx2 : nI (x + 1) < 100 := (qI_lt (m := 100) (by omega) (by omega)).mpr (by omega)
    rw [cd_step hb (by omega) h1 hx2, nI_add1]
    have e2 : Nat.gcd b r = Nat.gcd r (b % r) := by rw [Nat.gcd_comm b r, Nat.gcd_rec, Nat.gcd_comm]
    have hh := mod_half hr h1
    rw [e1, e2]
    exact ih fu r (b % r) (x + 1 + 1) (by omega) (by omega) (by rw [Nat.pow_succ] at hk; omega) (by omega) (by omega)
set_option maxHeartbeats 1000000 in
set_option maxRecDepth 100000 in
theorem cd_some : ∀ (fu : Nat) (a b : Int64) (x : Nat), 101 ≤ fu + x → x ≤ 100 → ∃ r, f_X4_commonDivisor_3 fu a b (nI x) = some r := by
  intro fu
  induction fu with
  | zero => intro a b x h h'; omega
  | succ fu ih =>
    intro a b x h h'
    rw [f_X4_commonDivisor_3]
    by_cases c : (100 : Int32) ≤ nI x
    · exact ⟨_, by rw [if_pos c]⟩
    rw [if_neg c]
    by_cases c2 : b = 0
    · exact ⟨_, by rw [if_pos c2]⟩
    rw [if_neg c2, if_pos c2, Option.bind_some, nI_add1]
    have : ¬ 100 ≤ x := fun h9 => c ((qI_le (n := 100) (by omega) (by omega)).mpr h9)
    exact ih _ _ _ (by omega) (by omega)
set_option maxHeartbeats 1000000 in
set_option maxRecDepth 100000 in
theorem commonDivisor_some (a b : Int64) : ∃ r, f_X4_commonDivisor a b = some r := cd_some fuel a b 0 (by rw [fuel_eq]; omega) (by omega)
set_option maxHeartbeats 1000000 in
set_option maxRecDepth 100000 in
theorem commonDivisor_eq {a b : Nat} (ha : a < 9223372036854775808) (hb : b < 281474976710656) : f_X4_commonDivisor (I64 a) (I64 b) = some (I64 ((Nat.gcd a b : Nat) : Int)) :=
  cd_loop 48 fuel a b 0 ha (by omega) (by omega) (by rw [fuel_eq]; omega) (by omega)
set_option maxHeartbeats 1000000 in
set_option maxRecDepth 100000 in
theorem mg_step {fu : Nat} {a b : Nat} (ha : a < 9223372036854775808) (hb : b < 9223372036854775808) (h0 : b ≠ 0) :
    f_X7_gcd_28 (fu + 1) (I64 a) (I64 b) = f_X7_gcd_28 fu (I64 b) (I64 ((a % b : Nat) : Int)) := by
  rw [f_X7_gcd_28, if_neg (fun h => h0 ((I64n_eq0 hb).mp h)), if_pos (fun h => h0 ((I64n_eq0 hb).mp h)), Option.bind_some, I64_nmod ha hb h0]
set_option maxHeartbeats 1000000 in
set_option maxRecDepth 100000 in
theorem mg_end {fu : Nat} {a : Int64} : f_X7_gcd_28 (fu + 1) a 0 = some a := by
  rw [f_X7_gcd_28, if_pos rfl]
set_option maxHeartbeats 1000000 in
set_option maxRecDepth 100000 in
theorem mg_loop : ∀ (k fu : Nat) (a b : Nat), a < 9223372036854775808 → b < 9223372036854775808 → b < 2 ^ k → 2 * k + 1 ≤ fu → f_X7_gcd_28 fu (I64 a) (I64 b) = some (I64 ((Nat.gcd a b : Nat) : Int)) := by
  intro k
  induction k with
  | zero =>
    intro fu a b ha hb hk hf
    have : b = 0 := by simp at hk; omega
    subst this
    obtain ⟨fu, rfl⟩ : ∃ f, fu = f + 1 := ⟨fu - 1, by omega⟩
    rw [Nat.gcd_zero_right]; exact mg_end
  | succ k ih =>
    intro fu a b ha hb hk hf
    obtain ⟨fu, rfl⟩ : ∃ f, fu = f + 1 := ⟨fu - 1, by omega⟩
    by_cases h0 : b = 0
    · subst h0; rw [Nat.gcd_zero_right]; exact mg_end
    rw [mg_step ha hb h0]
    have hr : a % b < b := Nat.mod_lt _ (Nat.pos_of_ne_zero h0)
    have e1 : Nat.gcd a b = Nat.gcd b (a % b) := by rw [Nat.gcd_comm a b, Nat.gcd_rec, Nat.gcd_comm]
    generalize hrr : a % b = r at *
    obtain ⟨fu, rfl⟩ : ∃ f, fu = f + 1 := ⟨fu - 1, by omega⟩
    by_cases h1 : r = 0
    · subst h1; rw [e1, Nat.gcd_zero_right]; exact mg_end
    rw [mg_step hb (by omega) h1]
    have e2 : Nat.gcd b r = Nat.gcd r (b % r) := by rw [Nat.gcd_comm b r, Nat.gcd_rec, Nat.gcd_comm]
    have hh := mod_half hr h1
    rw [e1, e2]
    exact ih fu r (b % r) (by omega) (by omega) (by rw [Nat.pow_succ] at hk; omega) (by omega)
def s64 (x : Int) : Prop := -9223372036854775808 < x ∧ x < 9223372036854775808
set_option maxHeartbeats 1000000 in
set_option maxRecDepth 100000 in
theorem s64.r {x : Int} (h : s64 x) : r64 x := by unfold s64 at h; unfold r64; omega
set_option maxHeartbeats 1000000 in
set_option maxRecDepth 100000 in
theorem s64.n {x : Int} (h : s64 x) : r64 (-x) := by unfold s64 at h; unfold r64; omega
set_option maxHeartbeats 1000000 in
set_option maxRecDepth 100000 in
theorem s64.abs {x : Int} (h : s64 x) : x.natAbs < 9223372036854775808 := by unfold s64 at h; omega
set_option maxHeartbeats 1000000 in
set_option maxRecDepth 100000 in
theorem mgcd_eq {a b : Int} (ha : s64 a) (hb : s64 b) : f_X7_gcd (I64 a) (I64 b) = some (I64 ((Int.gcd a b : Nat) : Int)) := by
  have h1 : ∀ {x : Int} (hx : s64 x), (if (0 : Int64) ≤ I64 x then I64 x else - I64 x) = I64 (x.natAbs : Int) := by
    intro x hx
    by_cases c : 0 ≤ x
    · rw [if_pos ((I64_ge0 hx.r).mpr c)]; congr 1; omega
    · rw [if_neg (fun h => c ((I64_ge0 hx.r).mp h)), I64_neg]; congr 1; omega
  have h2 : f_X7_gcd (I64 a) (I64 b) = f_X7_gcd_26 (I64 (a.natAbs : Int)) (I64 (b.natAbs : Int)) := by
    rw [← h1 ha, ← h1 hb]
    unfold f_X7_gcd f_X7_gcd_12
    split <;> split <;> rfl
  rw [h2]
  exact mg_loop 63 fuel _ _ ha.abs hb.abs hb.abs (by rw [fuel_eq]; omega)
set_option maxHeartbeats 1000000 in
set_option maxRecDepth 100000 in
theorem red_num (a b : Int) (hb : b ≠ 0) : a.tdiv (if b < 0 then -((Int.gcd a b : Nat) : Int) else (Int.gcd a b : Nat)) = (Rat.divInt a b).num := by
  rw [Rat.num_divInt, Int.gcd_comm b a]
  have hd : ((Int.gcd a b : Nat) : Int) ∣ a := Int.gcd_dvd_left a b
  by_cases c : b < 0
  · rw [if_pos c, Int.tdiv_neg, Int.sign_eq_neg_one_of_neg c, Int.neg_one_mul, Int.tdiv_eq_ediv_of_dvd hd, Int.neg_ediv_of_dvd hd]
  · rw [if_neg c, Int.sign_eq_one_of_pos (by omega), Int.one_mul, Int.tdiv_eq_ediv_of_dvd hd]
set_option maxHeartbeats 1000000 in
set_option maxRecDepth 100000 in
theorem red_den (a b : Int) (hb : b ≠ 0) : b.tdiv (if b < 0 then -((Int.gcd a b : Nat) : Int) else (Int.gcd a b : Nat)) = ((Rat.divInt a b).den : Int) := by
  rw [Rat.den_divInt, Int.gcd_comm b a, if_neg hb]
  have hd : ((Int.gcd a b : Nat) : Int) ∣ b := Int.gcd_dvd_right a b
  have hd2 : (Int.gcd a b) ∣ b.natAbs := by have := Int.natAbs_dvd_natAbs.mpr hd; simpa using this
  by_cases c : b < 0
  · rw [if_pos c, Int.tdiv_neg, Int.tdiv_eq_ediv_of_dvd hd, ← Int.neg_ediv_of_dvd hd]
    rw [Int.natCast_ediv]; congr 1; omega
  · rw [if_neg c, Int.tdiv_eq_ediv_of_dvd hd, Int.natCast_ediv]; congr 1; omega
set_option maxHeartbeats 1000000 in
set_option maxRecDepth 100000 in
theorem upd_self (f : Nat → Int32) (k : Nat) (x : Int32) : upd f k x k = x := by unfold upd; rw [if_pos rfl]
set_option maxHeartbeats 1000000 in
set_option maxRecDepth 100000 in
theorem upd_ne (f : Nat → Int32) {k j : Nat} (x : Int32) (h : j ≠ k) : upd f k x j = f j := by unfold upd; rw [if_neg h]
set_option maxHeartbeats 1000000 in
set_option maxRecDepth 100000 in
theorem updL_self (f : Nat → Int64) (k : Nat) (x : Int64) : vp_updL f k x k = x := by unfold vp_updL; rw [if_pos rfl]
set_option maxHeartbeats 1000000 in
set_option maxRecDepth 100000 in
theorem updL_ne (f : Nat → Int64) {k j : Nat} (x : Int64) (h : j ≠ k) : vp_updL f k x j = f j := by unfold vp_updL; rw [if_neg h]
set_option maxHeartbeats 1000000 in
set_option maxRecDepth 100000 in
theorem SumS_ext {a b : SumS} (h1 : gS_size a = gS_size b) (h2 : gS_ov a = gS_ov b) (h3 : gS_keys a = gS_keys b) (h4 : gS_tops a = gS_tops b) (h5 : gS_bots a = gS_bots b) : a = b := by
  obtain ⟨a1, a2, a3, a4, a5⟩ := a
  obtain ⟨b1, b2, b3, b4, b5⟩ := b
  simp only [gS_size, gS_ov, gS_keys, gS_tops, gS_bots] at h1 h2 h3 h4 h5
  subst h1 h2 h3 h4 h5; rfl
def mkS (n : Int32) (o : Int32) (k : Nat → Int32) (t b : Nat → Int64) : SumS := (n, o, k, t, b)
set_option maxHeartbeats 1000000 in
set_option maxRecDepth 100000 in
theorem placeFor_loop (nS : Nat) (z : SumS) (n : Nat) (hn : gS_size z = nI n) (hN : n ≤ nS) (hS : nS ≤ 200) (k : Int32) : ∀ (d fu i : Nat), i + d = n → d < fu → ∃ r, f_X4_placeFor_2 nS z fu k (nI i) = some (nI r) ∧ i ≤ r ∧ r ≤ n ∧ (∀ j, i ≤ j → j < r → gS_keys z j < k) ∧ (r < n → k ≤ gS_keys z r) := by
  intro d
  induction d with
  | zero =>
    intro fu i hi hf
    obtain ⟨fu, rfl⟩ : ∃ f, fu = f + 1 := ⟨fu - 1, by omega⟩
    refine ⟨i, ?_, by omega, by omega, fun j _ _ => by omega, fun _ => by omega⟩
    rw [f_X4_placeFor_2, hn, if_pos ((qI_le (by omega) (by omega)).mpr (by omega))]
  | succ d ih =>
    intro fu i hi hf
    obtain ⟨fu, rfl⟩ : ∃ f, fu = f + 1 := ⟨fu - 1, by omega⟩
    rw [f_X4_placeFor_2, hn, if_neg (fun h => by have := (qI_le (by omega) (by omega)).mp h; omega), if_pos ((inb_nI (by omega)).mpr (by omega)), nI_nat (by omega)]
    by_cases c : k ≤ gS_keys z i
    · rw [if_pos c]; exact ⟨i, rfl, by omega, by omega, fun j _ _ => by omega, fun _ => c⟩
    · rw [if_neg c, nI_add1]
      obtain ⟨r, h1, h2, h3, h4, h5⟩ := ih fu (i + 1) (by omega) (by omega)
      refine ⟨r, h1, by omega, h3, fun j hj hj' => ?_, h5⟩
      by_cases e : j = i
      · subst e; exact Int32.not_le.mp c
      · exact h4 j (by omega) hj'
set_option maxHeartbeats 1000000 in
set_option maxRecDepth 100000 in
theorem placeFor_eq (nS : Nat) (z : SumS) (n : Nat) (hn : gS_size z = nI n) (hN : n ≤ nS) (hS : nS ≤ 200) (k : Int32) : ∃ r, f_X4_placeFor nS z k = some (nI r) ∧ r ≤ n ∧ (∀ j, j < r → gS_keys z j < k) ∧ (r < n → k ≤ gS_keys z r) := by
  obtain ⟨r, h1, -, h3, h4, h5⟩ := placeFor_loop nS z n hn hN hS k n fuel 0 (by omega) (by rw [fuel_eq]; omega)
  exact ⟨r, h1, h3, fun j h => h4 j (by omega) h, h5⟩
set_option maxHeartbeats 1000000 in
set_option maxRecDepth 100000 in
theorem openAt_loop (nS : Nat) (i : Nat) (hS : nS ≤ 200) : ∀ (d fu : Nat) (z : SumS) (m : Nat), i + d = m → m < nS → d < fu → f_X4_openAt_18 nS fu z (nI i) (nI m) = some (1, mkS (gS_size z + 1) (gS_ov z) (fun j => if i < j ∧ j ≤ m then gS_keys z (j - 1) else gS_keys z j) (fun j => if i < j ∧ j ≤ m then gS_tops z (j - 1) else gS_tops z j) (fun j => if i < j ∧ j ≤ m then gS_bots z (j - 1) else gS_bots z j)) := by
  intro d
  induction d with
  | zero =>
    intro fu z m hm hN hf
    obtain ⟨fu, rfl⟩ : ∃ f, fu = f + 1 := ⟨fu - 1, by omega⟩
    rw [f_X4_openAt_18, if_pos ((qI_le (by omega) (by omega)).mpr (by omega))]
    congr 2
    refine SumS_ext rfl rfl ?_ ?_ ?_ <;>
    · funext j
      show _ = if i < j ∧ j ≤ m then _ else _
      rw [if_neg (by omega)]; rfl
  | succ d ih =>
    intro fu z m hm hN hf
    obtain ⟨fu, rfl⟩ : ∃ f, fu = f + 1 := ⟨fu - 1, by omega⟩
    have e1 : inb (nI m - 1) nS = true := by rw [nI_sub1 (by omega)]; exact (inb_nI (by omega)).mpr (by omega)
    have e2 : inb (nI m) nS = true := (inb_nI (by omega)).mpr (by omega)
    have e3 : (nI m - 1).toNatClampNeg = m - 1 := by rw [nI_sub1 (by omega)]; exact nI_nat (by omega)
    have e4 : (nI m).toNatClampNeg = m := nI_nat (by omega)
    have e5 : nI m + (-1) = nI (m - 1) := nI_addm1 (by omega)
    rw [f_X4_openAt_18, if_neg (fun h => by have := (qI_le (by omega) (by omega)).mp h; omega)]
    simp only [e1, e2, e3, e4, e5, if_true]
    rw [ih fu _ (m - 1) (by omega) (by omega) (by omega)]
    congr 2
    refine SumS_ext rfl rfl ?_ ?_ ?_
    · funext j
      show (if i < j ∧ j ≤ m - 1 then upd (gS_keys z) m (gS_keys z (m - 1)) (j - 1) else upd (gS_keys z) m (gS_keys z (m - 1)) j) = if i < j ∧ j ≤ m then gS_keys z (j - 1) else gS_keys z j
      by_cases c : j = m
      · subst c; rw [if_neg (by omega), if_pos (by omega), upd_self]
      · by_cases c2 : i < j ∧ j ≤ m - 1
        · rw [if_pos c2, if_pos (by omega), upd_ne _ _ (by omega)]
        · rw [if_neg c2, if_neg (by omega), upd_ne _ _ c]
    · funext j
      show (if i < j ∧ j ≤ m - 1 then vp_updL (gS_tops z) m (gS_tops z (m - 1)) (j - 1) else vp_updL (gS_tops z) m (gS_tops z (m - 1)) j) = if i < j ∧ j ≤ m then gS_tops z (j - 1) else gS_tops z j
      by_cases c : j = m
      · subst c; rw [if_neg (by omega), if_pos (by omega), updL_self]
      · by_cases c2 : i < j ∧ j ≤ m - 1
        · rw [if_pos c2, if_pos (by omega), updL_ne _ _ (by omega)]
        · rw [if_neg c2, if_neg (by omega), updL_ne _ _ c]
    · funext j
      show (if i < j ∧ j ≤ m - 1 then vp_updL (gS_bots z) m (gS_bots z (m - 1)) (j - 1) else vp_updL (gS_bots z) m (gS_bots z (m - 1)) j) = if i < j ∧ j ≤ m then gS_bots z (j - 1) else gS_bots z j
      by_cases c : j = m
      · subst c; rw [if_neg (by omega), if_pos (by omega), updL_self]
      · by_cases c2 : i < j ∧ j ≤ m - 1
        · rw [if_pos c2, if_pos (by omega), updL_ne _ _ (by omega)]
        · rw [if_neg c2, if_neg (by omega), updL_ne _ _ c]
set_option maxHeartbeats 1000000 in
set_option maxRecDepth 100000 in
theorem openAt_eq (nS : Nat) (hS : nS ≤ 200) (z : SumS) (n i : Nat) (hn : gS_size z = nI n) (hi : i ≤ n) (hN : n < nS) : f_X4_openAt nS z (nI i) = some (1, mkS (nI (n + 1)) (gS_ov z) (fun j => if i < j ∧ j ≤ n then gS_keys z (j - 1) else gS_keys z j) (fun j => if i < j ∧ j ≤ n then gS_tops z (j - 1) else gS_tops z j) (fun j => if i < j ∧ j ≤ n then gS_bots z (j - 1) else gS_bots z j)) := by
  unfold f_X4_openAt
  rw [hn, if_pos ((qI_lt (by omega) (by omega)).mpr hN), Option.bind_some, openAt_loop nS i hS (n - i) fuel z n (by omega) hN (by rw [fuel_eq]; omega), hn, nI_add1]
set_option maxHeartbeats 1000000 in
set_option maxRecDepth 100000 in
theorem openAt_full (nS : Nat) (hS : nS ≤ 200) (z : SumS) (n : Nat) (i : Int32) (hn : gS_size z = nI n) (hN : n = nS) : f_X4_openAt nS z i = some (0, z) := by
  unfold f_X4_openAt
  rw [hn, if_neg (fun h => by have := (qI_lt (by omega) (by omega)).mp h; omega)]
set_option maxHeartbeats 1000000 in
set_option maxRecDepth 100000 in
theorem closeAt_loop (nS : Nat) (hS : nS ≤ 200) (n : Nat) (hN : n ≤ nS) : ∀ (d fu : Nat) (z : SumS) (m : Nat), gS_size z = nI n → m + 1 + d = n → d < fu → f_X4_closeAt_2 nS fu z (nI m) = some (mkS (nI (n - 1)) (gS_ov z) (fun j => if m ≤ j ∧ j < n - 1 then gS_keys z (j + 1) else gS_keys z j) (fun j => if m ≤ j ∧ j < n - 1 then gS_tops z (j + 1) else gS_tops z j) (fun j => if m ≤ j ∧ j < n - 1 then gS_bots z (j + 1) else gS_bots z j)) := by
  intro d
  induction d with
  | zero =>
    intro fu z m hn hm hf
    obtain ⟨fu, rfl⟩ : ∃ f, fu = f + 1 := ⟨fu - 1, by omega⟩
    have e0 : nI m + 1 = nI (m + 1) := nI_add1 m
    rw [f_X4_closeAt_2, hn, e0, if_pos ((qI_le (by omega) (by omega)).mpr (by omega)), nI_sub1 (by omega)]
    congr 1
    refine SumS_ext rfl rfl ?_ ?_ ?_ <;>
    · funext j
      show _ = if m ≤ j ∧ j < n - 1 then _ else _
      rw [if_neg (by omega)]; rfl
  | succ d ih =>
    intro fu z m hn hm hf
    obtain ⟨fu, rfl⟩ : ∃ f, fu = f + 1 := ⟨fu - 1, by omega⟩
    have e0 : nI m + 1 = nI (m + 1) := nI_add1 m
    have e1 : inb (nI (m + 1)) nS = true := (inb_nI (by omega)).mpr (by omega)
    have e2 : inb (nI m) nS = true := (inb_nI (by omega)).mpr (by omega)
    have e3 : (nI (m + 1)).toNatClampNeg = m + 1 := nI_nat (by omega)
    have e4 : (nI m).toNatClampNeg = m := nI_nat (by omega)
    rw [f_X4_closeAt_2, hn, e0, if_neg (fun h => by have := (qI_le (by omega) (by omega)).mp h; omega)]
    simp only [e1, e2, e3, e4, if_true]
    refine Eq.trans (ih fu _ (m + 1) ?_ (by omega) (by omega)) ?_
    · exact hn
    congr 1
    refine SumS_ext rfl rfl ?_ ?_ ?_
    · funext j
      show (if m + 1 ≤ j ∧ j < n - 1 then upd (gS_keys z) m (gS_keys z (m + 1)) (j + 1) else upd (gS_keys z) m (gS_keys z (m + 1)) j) = if m ≤ j ∧ j < n - 1 then gS_keys z (j + 1) else gS_keys z j
      by_cases c : j = m
      · subst c; rw [if_neg (by omega), if_pos (by omega), upd_self]
      · by_cases c2 : m + 1 ≤ j ∧ j < n - 1
        · rw [if_pos c2, if_pos (by omega), upd_ne _ _ (by omega)]
        · rw [if_neg c2, if_neg (by omega), upd_ne _ _ c]
    · funext j
      show (if m + 1 ≤ j ∧ j < n - 1 then vp_updL (gS_tops z) m (gS_tops z (m + 1)) (j + 1) else vp_updL (gS_tops z) m (gS_tops z (m + 1)) j) = if m ≤ j ∧ j < n - 1 then gS_tops z (j + 1) else gS_tops z j
      by_cases c : j = m
      · subst c; rw [if_neg (by omega), if_pos (by omega), updL_self]
      · by_cases c2 : m + 1 ≤ j ∧ j < n - 1
        · rw [if_pos c2, if_pos (by omega), updL_ne _ _ (by omega)]
        · rw [if_neg c2, if_neg (by omega), updL_ne _ _ c]
    · funext j
      show (if m + 1 ≤ j ∧ j < n - 1 then vp_updL (gS_bots z) m (gS_bots z (m + 1)) (j + 1) else vp_updL (gS_bots z) m (gS_bots z (m + 1)) j) = if m ≤ j ∧ j < n - 1 then gS_bots z (j + 1) else gS_bots z j
      by_cases c : j = m
      · subst c; rw [if_neg (by omega), if_pos (by omega), updL_self]
      · by_cases c2 : m + 1 ≤ j ∧ j < n - 1
        · rw [if_pos c2, if_pos (by omega), updL_ne _ _ (by omega)]
        · rw [if_neg c2, if_neg (by omega), updL_ne _ _ c]
set_option maxHeartbeats 1000000 in
set_option maxRecDepth 100000 in
theorem closeAt_eq (nS : Nat) (hS : nS ≤ 200) (z : SumS) (n i : Nat) (hn : gS_size z = nI n) (hi : i < n) (hN : n ≤ nS) : f_X4_closeAt nS z (nI i) = some (mkS (nI (n - 1)) (gS_ov z) (fun j => if i ≤ j ∧ j < n - 1 then gS_keys z (j + 1) else gS_keys z j) (fun j => if i ≤ j ∧ j < n - 1 then gS_tops z (j + 1) else gS_tops z j) (fun j => if i ≤ j ∧ j < n - 1 then gS_bots z (j + 1) else gS_bots z j)) :=
  closeAt_loop nS hS n hN (n - 1 - i) fuel z i hn (by omega) (by rw [fuel_eq]; omega)
set_option maxHeartbeats 1000000 in
set_option maxRecDepth 100000 in
theorem setReduced_some (nS : Nat) (z : SumS) (i : Nat) (t b : Int64) (hi : i < nS) (hS : nS ≤ 200) : ∃ z', f_X4_setReduced nS z (nI i) t b = some z' ∧ gS_size z' = gS_size z := by
  obtain ⟨r, hr⟩ := commonDivisor_some (mabs64 t) (mabs64 b)
  have key : ∀ v : Int64, ∃ z', f_X4_setReduced_29 nS z (nI i) t b v = some z' ∧ gS_size z' = gS_size z := by
    intro v
    have e2 : inb (nI i) nS = true := (inb_nI (by omega)).mpr (by omega)
    unfold f_X4_setReduced_29
    by_cases c : v = 0
    · subst c; exact ⟨uS_ov z 1, by rw [if_neg (by simp)], rfl⟩
    · simp only [c, e2, not_false_eq_true, if_true]; exact ⟨_, rfl, rfl⟩
  unfold f_X4_setReduced
  rw [hr, Option.bind_some]
  by_cases c : (0 : Int64) ≤ b
  · rw [if_pos c]; exact key _
  · rw [if_neg c]; exact key _
set_option maxHeartbeats 1000000 in
set_option maxRecDepth 100000 in
theorem setReduced_eq (nS : Nat) (z : SumS) (i : Nat) (t b : Int) (hi : i < nS) (hS : nS ≤ 200) (ht : s64 t) (hb : b.natAbs < 281474976710656) (h0 : b ≠ 0) : f_X4_setReduced nS z (nI i) (I64 t) (I64 b) = some (mkS (gS_size z) (gS_ov z) (gS_keys z) (vp_updL (gS_tops z) i (I64 (Rat.divInt t b).num)) (vp_updL (gS_bots z) i (I64 ((Rat.divInt t b).den : Int)))) := by
  have hb' : s64 b := by unfold s64; omega
  unfold f_X4_setReduced
  rw [mabs64_I ht.r ht.n, mabs64_I hb'.r hb'.n, commonDivisor_eq ht.abs hb, Option.bind_some]
  have hg : Nat.gcd t.natAbs b.natAbs = Int.gcd t b := rfl
  rw [hg]
  have hgp : 0 < Int.gcd t b := Int.gcd_pos_of_ne_zero_right t h0
  have hgl : Int.gcd t b ≤ b.natAbs := Nat.le_of_dvd (by omega) (Nat.gcd_dvd_right _ _)
  have e2 : inb (nI i) nS = true := (inb_nI (by omega)).mpr (by omega)
  have key : ∀ v : Int, v = (if b < 0 then -((Int.gcd t b : Nat) : Int) else (Int.gcd t b : Nat)) → f_X4_setReduced_29 nS z (nI i) (I64 t) (I64 b) (I64 v) = some (mkS (gS_size z) (gS_ov z) (gS_keys z) (vp_updL (gS_tops z) i (I64 (Rat.divInt t b).num)) (vp_updL (gS_bots z) i (I64 ((Rat.divInt t b).den : Int)))) := by
    intro v hv
    have hv0 : v ≠ 0 := by rw [hv]; split <;> omega
    have hvr : r64 v := by unfold r64; rw [hv]; split <;> omega
    unfold f_X4_setReduced_29
    have hz : ¬ I64 v = 0 := fun h => hv0 ((I64_eq0 hvr).mp h)
    simp only [hz, e2, not_false_eq_true, if_true]
    rw [I64_div ht.r hvr (tdiv_r64 ht.1 ht.2), I64_div hb'.r hvr (tdiv_r64 hb'.1 hb'.2), nI_nat (by omega)]
    rw [hv, red_num t b h0, red_den t b h0]
    rfl
  by_cases c : b < 0
  · rw [if_neg (fun h => by have := (I64_ge0 hb'.r).mp h; omega), I64_neg]
    exact key _ (by rw [if_pos c])
  · rw [if_pos ((I64_ge0 hb'.r).mpr (by omega))]
    exact key _ (by rw [if_neg c])
def upF (F : Nat → Rat) (k : Nat) (v : Rat) : Nat → Rat := fun j => if j = k then v else F j
set_option maxHeartbeats 1000000 in
set_option maxRecDepth 100000 in
theorem upF_self (F : Nat → Rat) (k : Nat) (v : Rat) : upF F k v k = v := by unfold upF; rw [if_pos rfl]
set_option maxHeartbeats 1000000 in
set_option maxRecDepth 100000 in
theorem upF_ne (F : Nat → Rat) {k j : Nat} (v : Rat) (h : j ≠ k) : upF F k v j = F j := by unfold upF; rw [if_neg h]
def sRep (z : SumS) (n : Nat) (K : Nat → Nat) (F : Nat → Rat) : Prop :=
  gS_size z = nI n ∧ (∀ i, i < n → gS_keys z i = nI (K i)) ∧ (∀ i, i < n → gS_tops z i = I64 (F (K i)).num) ∧ (∀ i, i < n → gS_bots z i = I64 ((F (K i)).den : Int)) ∧
  (∀ i j, i < j → j < n → K i < K j) ∧ (∀ i, i < n → F (K i) ≠ 0 ∧ K i < 10240) ∧ (∀ k, F k ≠ 0 → ∃ i, i < n ∧ K i = k)
set_option maxHeartbeats 1000000 in
set_option maxRecDepth 100000 in
theorem sRep.inj {z : SumS} {n : Nat} {K : Nat → Nat} {F : Nat → Rat} (h : sRep z n K F) {i j : Nat} (hi : i < n) (hj : j < n) (e : K i = K j) : i = j := by
  obtain ⟨-, -, -, -, h5, -, -⟩ := h
  rcases Nat.lt_trichotomy i j with c | c | c
  · have := h5 i j c hj; omega
  · exact c
  · have := h5 j i c hi; omega
set_option maxHeartbeats 1000000 in
set_option maxRecDepth 100000 in
theorem addUp_some (nS : Nat) (hS : nS ≤ 200) (z : SumS) (n : Nat) (hn : gS_size z = nI n) (hN : n ≤ nS) (k : Int32) (t b : Int64) : ∃ z' n', f_X4_addUp nS z k t b = some z' ∧ gS_size z' = nI n' ∧ n' ≤ nS := by
  obtain ⟨r, h1, h2, -, -⟩ := placeFor_eq nS z n hn hN hS k
  have h126 : ∀ (w : SumS) (q : Nat) (x y : Int64), gS_size w = nI q → q ≤ nS → r < q → ∃ z' n', f_X4_addUp_126 nS w k (nI r) x y = some z' ∧ gS_size z' = nI n' ∧ n' ≤ nS := by
    intro w q x y hw hq hr
    unfold f_X4_addUp_126
    rw [if_pos ((inb_nI (by omega)).mpr (by omega))]
    obtain ⟨z', e1, e2⟩ := setReduced_some nS (uS_keys w (upd (gS_keys w) (nI r).toNatClampNeg k)) r x y (by omega) hS
    rw [e1, Option.bind_some]
    exact ⟨z', q, rfl, e2.trans hw, hq⟩
  have h85 : ∀ (x7 : Int32) (x y : Int64), (x7 ≠ 0 → r < n) → ∃ z' n', f_X4_addUp_85 nS z k (nI r) x7 x y = some z' ∧ gS_size z' = nI n' ∧ n' ≤ nS := by
    intro x7 x y h7
    unfold f_X4_addUp_85
    by_cases c : x = 0
    · rw [if_neg (by simp [c])]
      by_cases c2 : x7 = 0
      · rw [if_pos c2]; exact ⟨z, n, rfl, hn, hN⟩
      · rw [if_neg c2, closeAt_eq nS hS z n r hn (h7 c2) hN, Option.bind_some]
        exact ⟨_, n - 1, rfl, rfl, by omega⟩
    · rw [if_pos c]
      by_cases c2 : x7 = 0
      · rw [if_neg (by simp [c2])]
        by_cases c3 : n = nS
        · rw [openAt_full nS hS z n _ hn c3, Option.bind_some, if_neg (by simp)]
          exact ⟨uS_ov z 1, n, rfl, hn, hN⟩
        · rw [openAt_eq nS hS z n r hn h2 (by omega), Option.bind_some, if_pos (show ¬ (1 : Int32) = 0 by decide)]
          exact h126 _ (n + 1) x y rfl (by omega) (by omega)
      · rw [if_pos c2]
        exact h126 z n x y hn hN (h7 c2)
  have h32 : ∀ (v : Int32), (v ≠ 0 → r < n) → ∃ z' n', f_X4_addUp_32 nS z k t b (nI r) v = some z' ∧ gS_size z' = nI n' ∧ n' ≤ nS := by
    intro v hv
    unfold f_X4_addUp_32 f_X4_addUp_63
    by_cases c : v = 0
    · simp only [c, if_true]; exact h85 0 _ _ (fun h => absurd rfl h)
    · have e2 : inb (nI r) nS = true := (inb_nI (by have := hv c; omega)).mpr (by have := hv c; omega)
      simp only [c, if_false, e2, if_true]; exact h85 v _ _ hv
  unfold f_X4_addUp
  rw [h1, Option.bind_some, hn]
  by_cases c : r < n
  · rw [if_neg (fun h => by have := (qI_le (by omega) (by omega)).mp h; omega), if_pos ((inb_nI (by omega)).mpr (by omega))]
    split
    · exact h32 0 (fun h => absurd rfl h)
    · exact h32 1 (fun _ => c)
  · rw [if_pos ((qI_le (by omega) (by omega)).mpr (by omega))]
    exact h32 0 (fun h => absurd rfl h)
set_option maxHeartbeats 1000000 in
set_option maxRecDepth 100000 in
theorem divInt_eq0 {a b : Int} (hb : b ≠ 0) : Rat.divInt a b = 0 ↔ a = 0 := by
  rw [← Rat.num_eq_zero, Rat.num_divInt]
  constructor
  · intro h
    have hd : ((Int.gcd b a : Nat) : Int) ∣ b.sign * a := Int.dvd_mul_of_dvd_right (Int.gcd_dvd_right b a)
    have := Int.eq_zero_of_ediv_eq_zero hd h
    rcases Int.mul_eq_zero.mp this with h | h
    · exact absurd (Int.sign_eq_zero_iff_zero.mp h) hb
    · exact h
  · intro h; rw [h]; simp
set_option maxHeartbeats 1000000 in
set_option maxRecDepth 100000 in
theorem rat_add_divInt (v : Rat) (p q : Int) (hq : q ≠ 0) : v + Rat.divInt p q = Rat.divInt (v.num * q + p * v.den) (v.den * q) := by
  have h1 : v = Rat.divInt v.num v.den := (Rat.num_divInt_den v).symm
  have hd : (v.den : Int) ≠ 0 := by have := v.den_nz; omega
  conv => lhs; rw [h1]
  exact Rat.divInt_add_divInt _ _ hd hq
set_option maxHeartbeats 1000000 in
set_option maxRecDepth 100000 in
theorem addUp_eq (nS : Nat) (hS : nS ≤ 200) (z : SumS) (n : Nat) (K : Nat → Nat) (F : Nat → Rat) (R : sRep z n K F) (hN : n ≤ nS) (k : Nat) (hk : k < 10240) (p q : Int) (hq : q ≠ 0)
    (hroom : F k = 0 → n < nS) (ht : s64 ((F k).num * q + p * (F k).den)) (hb : ((F k).den * q).natAbs < 281474976710656) :
    ∃ z' n' K', f_X4_addUp nS z (nI k) (I64 p) (I64 q) = some z' ∧ sRep z' n' K' (upF F k (F k + Rat.divInt p q)) ∧ gS_ov z' = gS_ov z ∧ n' ≤ nS ∧ n' ≤ n + 1 := by
  obtain ⟨R1, R2, R3, R4, R5, R6, R7⟩ := id R
  obtain ⟨r, h1, h2, h3, h4⟩ := placeFor_eq nS z n R1 hN hS (nI k)
  have hK : ∀ i, i < n → K i < 10240 := fun i hi => (R6 i hi).2
  have h3 : ∀ j, j < r → K j < k := fun j hj => by
    have := h3 j hj
    rw [R2 j (by omega)] at this
    exact (qI_lt (by have := hK j (by omega); omega) (by omega)).mp this
  have h4 : r < n → k ≤ K r := fun hr => by
    have := h4 hr
    rw [R2 r hr] at this
    exact (qI_le (by omega) (by have := hK r hr; omega)).mp this
  have hden : (F k).den ≠ 0 := (F k).den_nz
  have hdq : ((F k).den : Int) * q ≠ 0 := Int.mul_ne_zero (by omega) hq
  have hsum := rat_add_divInt (F k) p q hq
  unfold f_X4_addUp
  rw [h1, Option.bind_some, R1]
  by_cases hkn : r < n ∧ K r = k
  ·
    obtain ⟨hr, hkr⟩ := hkn
    have e2 : inb (nI r) nS = true := (inb_nI (by omega)).mpr (by omega)
    have e3 : (nI r).toNatClampNeg = r := nI_nat (by omega)
    have hF : F k ≠ 0 := by rw [← hkr]; exact (R6 r hr).1
    rw [if_neg (fun h => by have := (qI_le (by omega) (by omega)).mp h; omega), if_pos e2, e3, R2 r hr, hkr, if_neg (by simp)]
    unfold f_X4_addUp_32 f_X4_addUp_63
    rw [if_neg (by decide), if_pos e2, if_pos e2, if_neg (by decide), if_pos e2, e3, R3 r hr, R4 r hr, hkr, I64_mul, I64_mul, I64_add, I64_mul]
    unfold f_X4_addUp_85
    by_cases c : (F k).num * q + p * (F k).den = 0
    · rw [if_neg (by rw [I64_eq0 ht.r]; simp [c]), if_neg (by decide), closeAt_eq nS hS z n r R1 hr hN, Option.bind_some]
      have hv : F k + Rat.divInt p q = 0 := by rw [hsum, divInt_eq0 hdq]; exact c
      refine ⟨_, n - 1, fun j => if j < r then K j else K (j + 1), rfl, ⟨rfl, ?_, ?_, ?_, ?_, ?_, ?_⟩, rfl, by omega, by omega⟩
      · intro j hj
        show (if r ≤ j ∧ j < n - 1 then gS_keys z (j + 1) else gS_keys z j) = nI (if j < r then K j else K (j + 1))
        by_cases c2 : j < r
        · rw [if_neg (by omega), if_pos c2, R2 j (by omega)]
        · rw [if_pos (by omega), if_neg c2, R2 (j + 1) (by omega)]
      · intro j hj
        show (if r ≤ j ∧ j < n - 1 then gS_tops z (j + 1) else gS_tops z j) = I64 (upF F k _ (if j < r then K j else K (j + 1))).num
        by_cases c2 : j < r
        · rw [if_neg (by omega), if_pos c2, R3 j (by omega), upF_ne _ _ (by have := R5 j r c2 hr; omega)]
        · rw [if_pos (by omega), if_neg c2, R3 (j + 1) (by omega), upF_ne _ _ (by have := R5 r (j + 1) (by omega) (by omega); omega)]
      · intro j hj
        show (if r ≤ j ∧ j < n - 1 then gS_bots z (j + 1) else gS_bots z j) = I64 ((upF F k _ (if j < r then K j else K (j + 1))).den : Int)
        by_cases c2 : j < r
        · rw [if_neg (by omega), if_pos c2, R4 j (by omega), upF_ne _ _ (by have := R5 j r c2 hr; omega)]
        · rw [if_pos (by omega), if_neg c2, R4 (j + 1) (by omega), upF_ne _ _ (by have := R5 r (j + 1) (by omega) (by omega); omega)]
      · intro i j hij hj
        show (if i < r then K i else K (i + 1)) < (if j < r then K j else K (j + 1))
        split <;> split
        · exact R5 _ _ (by omega) (by omega)
        · exact R5 _ _ (by omega) (by omega)
        · omega
        · exact R5 _ _ (by omega) (by omega)
      · intro j hj
        show upF F k _ (if j < r then K j else K (j + 1)) ≠ 0 ∧ (if j < r then K j else K (j + 1)) < 10240
        by_cases c2 : j < r
        · rw [if_pos c2, upF_ne _ _ (by have := R5 j r c2 hr; omega)]; exact R6 j (by omega)
        · rw [if_neg c2, upF_ne _ _ (by have := R5 r (j + 1) (by omega) (by omega); omega)]; exact R6 (j + 1) (by omega)
      · intro j hj
        by_cases cj : j = k
        · subst cj; rw [upF_self] at hj; exact absurd hv hj
        · rw [upF_ne _ _ cj] at hj
          obtain ⟨i, hi, e⟩ := R7 j hj
          by_cases c2 : i < r
          · exact ⟨i, by omega, by show (if i < r then _ else _) = _; rw [if_pos c2, e]⟩
          · have : i ≠ r := fun h => by subst h; omega
            exact ⟨i - 1, by omega, by show (if i - 1 < r then _ else _) = _; rw [if_neg (by omega), show i - 1 + 1 = i by omega, e]⟩
    · rw [if_pos (by rw [I64_eq0 ht.r]; exact c), if_pos (by decide)]
      unfold f_X4_addUp_126
      rw [if_pos e2, setReduced_eq nS _ r _ _ (by omega) hS ht hb hdq, Option.bind_some, ← hsum]
      have hv : F k + Rat.divInt p q ≠ 0 := by rw [hsum, Ne, divInt_eq0 hdq]; exact c
      generalize F k + Rat.divInt p q = v at *
      refine ⟨_, n, K, rfl, ⟨R1, ?_, ?_, ?_, R5, ?_, ?_⟩, rfl, hN, by omega⟩
      · intro j hj
        show upd (gS_keys z) (nI r).toNatClampNeg (nI k) j = _
        rw [e3]
        by_cases cj : j = r
        · subst cj; rw [upd_self, hkr]
        · rw [upd_ne _ _ cj, R2 j hj]
      · intro j hj
        show vp_updL (gS_tops z) r _ j = _
        by_cases cj : j = r
        · subst cj; rw [updL_self, hkr, upF_self]
        · rw [updL_ne _ _ cj, R3 j hj, upF_ne]
          intro h; exact cj (R.inj hj hr (by omega))
      · intro j hj
        show vp_updL (gS_bots z) r _ j = _
        by_cases cj : j = r
        · subst cj; rw [updL_self, hkr, upF_self]
        · rw [updL_ne _ _ cj, R4 j hj, upF_ne]
          intro h; exact cj (R.inj hj hr (by omega))
      · intro j hj
        refine ⟨?_, hK j hj⟩
        by_cases cj : K j = k
        · rw [cj, upF_self]; exact hv
        · rw [upF_ne _ _ cj]; exact (R6 j hj).1
      · intro j hj
        by_cases cj : j = k
        · exact ⟨r, hr, by omega⟩
        · rw [upF_ne _ _ cj] at hj; exact R7 j hj
  ·
    have hF : F k = 0 := by
      apply Classical.byContradiction
      intro hF
      obtain ⟨i, hi, e⟩ := R7 k hF
      apply hkn
      by_cases c : i < r
      · have := h3 i c; omega
      · have hr : r < n := by omega
        refine ⟨hr, ?_⟩
        have := h4 hr
        by_cases c2 : i = r
        · rw [← c2]; exact e
        · have := R5 r i (by omega) hi; omega
    have hN' := hroom hF
    have h31 : (if nI n ≤ nI r then f_X4_addUp_31 nS z (nI k) (I64 p) (I64 q) (nI r) else if inb (nI r) nS = true then if ¬ (gS_keys z (nI r).toNatClampNeg) = nI k then f_X4_addUp_31 nS z (nI k) (I64 p) (I64 q) (nI r) else f_X4_addUp_32 nS z (nI k) (I64 p) (I64 q) (nI r) (1 : Int32) else none) = f_X4_addUp_31 nS z (nI k) (I64 p) (I64 q) (nI r) := by
      by_cases c : r < n
      · rw [if_neg (fun h => by have := (qI_le (by omega) (by omega)).mp h; omega), if_pos ((inb_nI (by omega)).mpr (by omega)), nI_nat (by omega), R2 r c, if_pos]
        intro h
        exact hkn ⟨c, (nI_inj (by have := hK r c; omega) (by omega)).mp h⟩
      · rw [if_pos ((qI_le (by omega) (by omega)).mpr (by omega))]
    rw [h31]
    unfold f_X4_addUp_31 f_X4_addUp_32 f_X4_addUp_63 f_X4_addUp_85
    rw [if_pos rfl, if_pos rfl]
    have hnum : (F k).num = 0 := by rw [hF]; rfl
    have hden1 : (F k).den = 1 := by rw [hF]; rfl
    rw [hnum, hden1] at ht hsum
    rw [hden1] at hb
    have ht : s64 p := by simpa using ht
    have hb : q.natAbs < 281474976710656 := by simpa using hb
    have hsum : F k + Rat.divInt p q = Rat.divInt p q := by rw [hF]; exact Rat.zero_add _
    have hlt : r < n → k < K r := fun c => by
      have h5 := h4 c
      have : K r ≠ k := fun h => hkn ⟨c, h⟩
      omega
    by_cases c : p = 0
    · rw [if_neg (by rw [I64_eq0 ht.r]; simp [c]), if_pos rfl]
      have hv : F k + Rat.divInt p q = F k := by rw [hsum, hF, c, Rat.zero_divInt]
      refine ⟨z, n, K, rfl, ?_, rfl, hN, by omega⟩
      have : upF F k (F k + Rat.divInt p q) = F := by
        funext j
        by_cases cj : j = k
        · subst cj; rw [upF_self, hv]
        · rw [upF_ne _ _ cj]
      rw [this]; exact R
    · rw [if_pos (by rw [I64_eq0 ht.r]; exact c), if_neg (by simp), openAt_eq nS hS z n r R1 h2 hN', Option.bind_some, if_pos (show ¬ (1 : Int32) = 0 by decide)]
      unfold f_X4_addUp_126
      have e2 : inb (nI r) nS = true := (inb_nI (by omega)).mpr (by omega)
      have e3 : (nI r).toNatClampNeg = r := nI_nat (by omega)
      rw [if_pos e2, setReduced_eq nS _ r _ _ (by omega) hS ht hb hq, Option.bind_some, hsum]
      have hv : Rat.divInt p q ≠ 0 := by rw [Ne, divInt_eq0 hq]; exact c
      generalize Rat.divInt p q = v at *
      have hne : ∀ j, j < n → K j ≠ k := fun j hj h => by
        have := (R6 j hj).1; rw [h] at this; exact this hF
      refine ⟨_, n + 1, fun j => if j < r then K j else if j = r then k else K (j - 1), rfl, ⟨rfl, ?_, ?_, ?_, ?_, ?_, ?_⟩, rfl, by omega, by omega⟩
      · intro j hj
        show upd (fun j => if r < j ∧ j ≤ n then gS_keys z (j - 1) else gS_keys z j) (nI r).toNatClampNeg (nI k) j = nI (if j < r then K j else if j = r then k else K (j - 1))
        rw [e3]
        by_cases cj : j = r
        · subst cj; rw [upd_self, if_neg (by omega), if_pos rfl]
        · rw [upd_ne _ _ cj, if_neg cj]
          by_cases c2 : j < r
          · rw [if_neg (by omega), if_pos c2, R2 j (by omega)]
          · rw [if_pos (by omega), if_neg c2, R2 (j - 1) (by omega)]
      · intro j hj
        show vp_updL (fun j => if r < j ∧ j ≤ n then gS_tops z (j - 1) else gS_tops z j) r _ j = I64 (upF F k v (if j < r then K j else if j = r then k else K (j - 1))).num
        by_cases cj : j = r
        · subst cj; rw [updL_self, if_neg (by omega), if_pos rfl, upF_self]
        · rw [updL_ne _ _ cj, if_neg cj]
          by_cases c2 : j < r
          · rw [if_neg (by omega), if_pos c2, R3 j (by omega), upF_ne _ _ (hne j (by omega))]
          · rw [if_pos (by omega), if_neg c2, R3 (j - 1) (by omega), upF_ne _ _ (hne (j - 1) (by omega))]
      · intro j hj
        show vp_updL (fun j => if r < j ∧ j ≤ n then gS_bots z (j - 1) else gS_bots z j) r _ j = I64 ((upF F k v (if j < r then K j else if j = r then k else K (j - 1))).den : Int)
        by_cases cj : j = r
        · subst cj; rw [updL_self, if_neg (by omega), if_pos rfl, upF_self]
        · rw [updL_ne _ _ cj, if_neg cj]
          by_cases c2 : j < r
          · rw [if_neg (by omega), if_pos c2, R4 j (by omega), upF_ne _ _ (hne j (by omega))]
          · rw [if_pos (by omega), if_neg c2, R4 (j - 1) (by omega), upF_ne _ _ (hne (j - 1) (by omega))]
      · intro i j hij hj
        show (if i < r then K i else if i = r then k else K (i - 1)) < (if j < r then K j else if j = r then k else K (j - 1))
        by_cases ci : i < r
        · rw [if_pos ci]
          by_cases cj : j < r
          · rw [if_pos cj]; exact R5 _ _ hij (by omega)
          · rw [if_neg cj]
            by_cases cj2 : j = r
            · rw [if_pos cj2]; exact h3 i ci
            · rw [if_neg cj2]; exact R5 _ _ (by omega) (by omega)
        · rw [if_neg ci, if_neg (show ¬ j < r by omega), if_neg (show ¬ j = r by omega)]
          by_cases ci2 : i = r
          · rw [if_pos ci2]
            have h9 := hlt (by omega)
            by_cases cj3 : j - 1 = r
            · rw [cj3]; exact h9
            · have := R5 r (j - 1) (by omega) (by omega); omega
          · rw [if_neg ci2]; exact R5 _ _ (by omega) (by omega)
      · intro j hj
        show upF F k v (if j < r then K j else if j = r then k else K (j - 1)) ≠ 0 ∧ (if j < r then K j else if j = r then k else K (j - 1)) < 10240
        by_cases c2 : j < r
        · rw [if_pos c2, upF_ne _ _ (hne j (by omega))]; exact R6 j (by omega)
        · rw [if_neg c2]
          by_cases cj : j = r
          · rw [if_pos cj, upF_self]; exact ⟨hv, hk⟩
          · rw [if_neg cj, upF_ne _ _ (hne (j - 1) (by omega))]; exact R6 (j - 1) (by omega)
      · intro j hj
        by_cases cj : j = k
        · exact ⟨r, by omega, by show (if r < r then _ else if r = r then k else _) = _; rw [if_neg (by omega), if_pos rfl, cj]⟩
        · rw [upF_ne _ _ cj] at hj
          obtain ⟨i, hi, e⟩ := R7 j hj
          by_cases c2 : i < r
          · exact ⟨i, by omega, by show (if i < r then _ else _) = _; rw [if_pos c2, e]⟩
          · exact ⟨i + 1, by omega, by show (if i + 1 < r then _ else if i + 1 = r then _ else _) = _; rw [if_neg (by omega), if_neg (by omega), show i + 1 - 1 = i by omega, e]⟩
