def qv (V : Rat) (t b : Int) (T B : Nat) (E : Int) : Prop := V = Rat.divInt t b ∧ b ≠ 0 ∧ t.natAbs ≤ T ∧ b.natAbs ≤ B ∧ b ∣ E
set_option maxHeartbeats 1000000 in
set_option maxRecDepth 100000 in
theorem qv_mul {V : Rat} {t b : Int} {T B : Nat} {E : Int} (h : qv V t b T B E) (a c : Int) (hc : c ≠ 0) {A C : Nat} {G : Int} (ha : a.natAbs ≤ A) (hc' : c.natAbs ≤ C) (hd : c ∣ G) : qv (V * Rat.divInt a c) (t * a) (b * c) (T * A) (B * C) (E * G) := by
  obtain ⟨h1, h2, h3, h4, h5⟩ := h
  exact ⟨by rw [h1, Rat.divInt_mul_divInt], Int.mul_ne_zero h2 hc, absmul h3 ha, absmul h4 hc', Int.mul_dvd_mul h5 hd⟩
set_option maxHeartbeats 1000000 in
set_option maxRecDepth 100000 in
theorem qv_mono {V : Rat} {t b : Int} {T B T' B' : Nat} {E E' : Int} (h : qv V t b T B E) (h1 : T ≤ T') (h2 : B ≤ B') (h3 : E ∣ E') : qv V t b T' B' E' :=
  ⟨h.1, h.2.1, Nat.le_trans h.2.2.1 h1, Nat.le_trans h.2.2.2.1 h2, Int.dvd_trans h.2.2.2.2 h3⟩
set_option maxHeartbeats 1000000 in
set_option maxRecDepth 100000 in
theorem qv_num {V : Rat} {t b : Int} {T B : Nat} {E : Int} (h : qv V t b T B E) : V.num.natAbs ≤ T ∧ V.den ≤ B := by
  rw [h.1]
  exact ⟨Nat.le_trans (num_le t b) h.2.2.1, Nat.le_trans (den_le h.2.1) h.2.2.2.1⟩
set_option maxHeartbeats 1000000 in
set_option maxRecDepth 100000 in
theorem dvd_abs {b y D : Int} (hD : D ≠ 0) (h : D = b * y) : y.natAbs ≤ D.natAbs ∧ y ≠ 0 := by
  have hy : y ≠ 0 := fun e => hD (by rw [h, e, Int.mul_zero])
  have hb : b ≠ 0 := fun e => hD (by rw [h, e, Int.zero_mul])
  refine ⟨?_, hy⟩
  rw [h, Int.natAbs_mul]
  exact Nat.le_mul_of_pos_left _ (by omega)
set_option maxHeartbeats 1000000 in
set_option maxRecDepth 100000 in
theorem qv_scl {V : Rat} {t b : Int} {B : Nat} (h : qv V t b 2700 B 2332800000) (kd : Nat) (ag pw : Int) : scl 2332800000 6298560000000 (dl kd ag pw V) := by
  obtain ⟨h1, h2, h3, h4, y, hy⟩ := h
  obtain ⟨l, hy0⟩ := dvd_abs (by omega) hy
  have e : V = Rat.divInt (t * y) 2332800000 := by rw [h1, hy, Rat.divInt_mul_right hy0]
  rw [e]
  exact scl_mono (scl_dl kd ag pw) (by have := absmul h3 l; omega)
set_option maxHeartbeats 1000000 in
set_option maxRecDepth 100000 in
theorem put_int {nS : Nat} {w : SumS} {n : Nat} {Kw : Nat → Nat} {F : Nat → Rat} (hS : nS ≤ 200) {M : Nat} (R : sRep w n Kw F) (hs : scl 2332800000 M F) (hM : M ≤ 1259712000000000) (hn : n < nS) {kd : Nat} {ag pw : Int} (hk : kd ≤ 4) (ha : ag.natAbs ≤ 9) (hpw : pw.natAbs ≤ 12) {V : Rat} {p q : Int} (h : qv V p q 2700 3750 2332800000) :
    ∃ w' n' K', f_X4_put nS w (nI kd) (I32 ag) (I32 pw) (I64 p) (I64 q) = some w' ∧ sRep w' n' K' (addF F (dl kd ag pw V)) ∧ gS_ov w' = gS_ov w ∧ n' ≤ n + 1 ∧ scl 2332800000 (M + 6298560000000) (addF F (dl kd ag pw V)) := by
  have e := put_eq (nS := nS) hS R hn (kd := kd) (ag := ag) (pw := pw) (by unfold okT; omega) p q h.2.1 (scl_bdK (by omega) hs _ h.2.2.1 h.2.2.2.1 (by have : M * 3750 ≤ 1259712000000000 * 3750 := Nat.mul_le_mul_right _ hM; omega) (by decide))
  rw [← h.1] at e
  obtain ⟨w', n', K', e1, e2, e3, e4⟩ := e
  exact ⟨w', n', K', e1, e2, e3, e4, scl_add (by omega) hs (qv_scl h kd ag pw)⟩
set_option maxHeartbeats 1000000 in
set_option maxRecDepth 100000 in
theorem addT_int {row : Nat} (hr : row < 10) {z : MdS} {F : Nat → Rat} {M : Nat} (R : rRep z row F) (hs : scl 2332800000 M F) (hM : M ≤ 1259712000000000) {kd : Nat} {ag pw : Int} (hk : kd ≤ 4) (ha : ag.natAbs ≤ 9) (hpw : pw.natAbs ≤ 12) (h1 : kd = 1 → 0 ≤ ag) (h0 : kd = 0 → ag = 0) {V : Rat} {p q : Int} (h : qv V p q 2700 3750 2332800000) :
    ∃ z', f_X7_addTerm z (nI row) (nI kd) (I32 ag) (I32 pw) (I64 V.num) (I64 V.den) = some z' ∧ rRep z' row (addF F (dl kd ag pw V)) ∧ mSame z z' ∧ mRow z z' row ∧ gM_isFull z' = gM_isFull z ∧ gM_top z' = gM_top z ∧ gM_bottom z' = gM_bottom z ∧ scl 2332800000 (M + 6298560000000) (addF F (dl kd ag pw V)) := by
  obtain ⟨b1, b2⟩ := qv_num h
  have hd : 0 < (V.den : Int) := by have := V.den_nz; omega
  obtain ⟨z', q1, q2, q3, q4, q5, q6, q7, q8, q9⟩ := addTerm_eq' z row hr F R (kd := kd) (ag := ag) (pw := pw) (by unfold okT; omega) ⟨h1, h0⟩ V.num V.den hd (r64_of_abs b1 (by omega)) (scl_bdK (Q := 3750) (by omega) hs _ b1 (by omega) (by have : M * 3750 ≤ 1259712000000000 * 3750 := Nat.mul_le_mul_right _ hM; omega) (by decide))
  rw [Rat.num_divInt_den] at q6
  exact ⟨z', q1, q6, q2, q3, q7 (vk_nkey hk ha hpw h1 h0), q4, q5, scl_add (by omega) hs (qv_scl h kd ag pw)⟩
set_option maxHeartbeats 1000000 in
set_option maxRecDepth 100000 in
theorem scale33_eq (z : MdS) {p q : Int} (hq : 0 < q) (hp' : s64 p) (hq' : s64 q) : f_X7_scale_33 z (I64 p) (I64 q) = some (uM_bottom (uM_top z (I64 (Rat.divInt p q).num)) (I64 ((Rat.divInt p q).den : Int))) := by
  have hg : Int.gcd p q ≠ 0 := fun e => by have := (Int.gcd_eq_zero_iff.mp e).2; omega
  have hgl : Int.gcd p q ≤ q.natAbs := Int.gcd_le_natAbs_right p (by omega)
  have hgb : Int.gcd p q < 9223372036854775808 := by have := hq'.abs; omega
  unfold f_X7_scale_33
  rw [mgcd_eq hp' hq', Option.bind_some]
  have h0 : ¬ I64 ((Int.gcd p q : Nat) : Int) = 0 := fun e => hg ((I64n_eq0 hgb).mp e)
  rw [if_pos h0, if_pos h0]
  have n1 := red_num p q (by omega)
  have n2 := red_den p q (by omega)
  rw [if_neg (by omega)] at n1 n2
  rw [I64_div hp'.r (nn_r64 hgb) (tdiv_r64 hp'.1 hp'.2), I64_div hq'.r (nn_r64 hgb) (tdiv_r64 hq'.1 hq'.2), n1, n2]
set_option maxHeartbeats 1000000 in
set_option maxRecDepth 100000 in
theorem scale_eq (z : MdS) {V : Rat} (h1 : gM_top z = I64 V.num) (h2 : gM_bottom z = I64 (V.den : Int)) (a c : Int) (hc : c ≠ 0) (b1 : s64 (V.num * a)) (b2 : s64 (V.den * c)) : f_X7_scale z (I64 a) (I64 c) = some (uM_bottom (uM_top z (I64 (V * Rat.divInt a c).num)) (I64 ((V * Rat.divInt a c).den : Int))) := by
  have hd : (0 : Int) < V.den := by have := V.den_nz; omega
  have hq : (V.den : Int) * c ≠ 0 := Int.mul_ne_zero (by omega) hc
  unfold f_X7_scale
  rw [h1, h2, I64_mul, I64_mul, rat_mul_divInt]
  simp only [Option.bind_some]
  by_cases x : 0 ≤ (V.den : Int) * c
  · rw [if_pos ((I64_ge0 b2.r).mpr x)]
    exact scale33_eq z (by omega) b1 b2
  · rw [if_neg (fun h => x ((I64_ge0 b2.r).mp h)), I64_neg, I64_neg]
    have := scale33_eq z (p := -(V.num * a)) (q := -(V.den * c)) (by omega) (by unfold s64 at b1 ⊢; omega) (by unfold s64 at b2 ⊢; omega)
    rw [this, Rat.divInt_neg', Int.neg_neg]
set_option maxHeartbeats 1000000 in
set_option maxRecDepth 100000 in
theorem lay_eq {z : MdS} {F : Nat → Rat} {M : Nat} (R : rRep z 8 F) (hs : scl 2332800000 M F) (hM : M ≤ 1259712000000000) {V : Rat} (h1 : gM_top z = I64 V.num) (h2 : gM_bottom z = I64 (V.den : Int)) {kd : Nat} {ag pw : Int} (hk : kd ≤ 4) (ha : ag.natAbs ≤ 9) (hpw : pw.natAbs ≤ 12) (k1 : kd = 1 → 0 ≤ ag) (k0 : kd = 0 → ag = 0) (a c : Int) (hc : c ≠ 0) (b1 : s64 (V.num * a)) (b2 : s64 (V.den * c)) {p q : Int} (h : qv (V * Rat.divInt a c) p q 2700 3750 2332800000) :
    ∃ z', f_X7_lay z (nI kd) (I32 ag) (I32 pw) (I64 a) (I64 c) = some z' ∧ rRep z' 8 (addF F (dl kd ag pw (V * Rat.divInt a c))) ∧ mSame z z' ∧ mRow z z' 8 ∧ gM_isFull z' = gM_isFull z ∧ gM_top z' = gM_top z ∧ gM_bottom z' = gM_bottom z ∧ scl 2332800000 (M + 6298560000000) (addF F (dl kd ag pw (V * Rat.divInt a c))) := by
  unfold f_X7_lay
  simp only [Option.bind_some]
  rw [scale_eq z h1 h2 a c hc b1 b2, Option.bind_some]
  obtain ⟨z', q1, q2, q3, q4, q5, q6, q7, q8⟩ := addT_int (row := 8) (by omega) (z := uM_bottom (uM_top z (I64 (V * Rat.divInt a c).num)) (I64 ((V * Rat.divInt a c).den : Int))) (F := F) R hs hM hk ha hpw k1 k0 h
  have q1' : f_X7_addTerm (uM_bottom (uM_top z (I64 (V * Rat.divInt a c).num)) (I64 ((V * Rat.divInt a c).den : Int))) 8 (nI kd) (I32 ag) (I32 pw) (gM_top (uM_bottom (uM_top z (I64 (V * Rat.divInt a c).num)) (I64 ((V * Rat.divInt a c).den : Int)))) (gM_bottom (uM_bottom (uM_top z (I64 (V * Rat.divInt a c).num)) (I64 ((V * Rat.divInt a c).den : Int)))) = some z' := q1
  rw [q1', Option.bind_some]
  exact ⟨_, rfl, q2, q3, q4, q5, rfl, rfl, q8⟩
def trn (kd : Nat) : Nat := if kd = 3 then 4 else if kd = 4 then 3 else kd
def sgI (kd : Nat) : Int := if kd = 3 then -1 else 1
def sgD (kd : Nat) : Int := if kd = 4 then -1 else 1
def logC (m : Int) : Nat → Rat → Nat → Rat
  | 0, V => dl 1 0 (m + 1) (V * Rat.divInt 1 (m + 1))
  | k + 1, V => addF (dl 1 ((k + 1 : Nat) : Int) (m + 1) (V * Rat.divInt 1 (m + 1))) (logC m k (V * Rat.divInt (-((k + 1 : Nat) : Int)) (m + 1)))
def lowC (n : Int) : Nat → Nat → Rat → Nat → Rat
  | 0, kd, V => dl (trn kd) n 0 (V * Rat.divInt (sgI kd) n)
  | p + 1, kd, V => addF (dl (trn kd) n ((p + 1 : Nat) : Int) (V * Rat.divInt (sgI kd) n)) (lowC n p (trn kd) (V * Rat.divInt (sgI kd * -((p + 1 : Nat) : Int)) n))
def raiC (n : Int) : Nat → Nat → Rat → Nat → Rat
  | 0, _, _ => fun _ => 0
  | d + 1, kd, V => addF (dl kd n (-((d + 1 : Nat) : Int)) (V * Rat.divInt 1 (-((d + 1 : Nat) : Int)))) (raiC n d (trn kd) (V * Rat.divInt (-n * sgD kd) (-((d + 1 : Nat) : Int))))
def raiL (n : Int) : Nat → Nat → Rat → Nat → Rat
  | 0, kd, V => dl kd n (-1) V
  | d + 1, kd, V => raiL n d (trn kd) (V * Rat.divInt (-n * sgD kd) (-((d + 1 : Nat) : Int)))
def tL : Nat → Nat | 0 => 600 | 1 => 600 | 2 => 300 | 3 => 100 | _ => 0
def bL : Nat → Nat | 0 => 750 | 1 => 150 | 2 => 30 | 3 => 6 | _ => 0
def eL : Nat → Int | 0 => 12960000 | 1 => 216000 | 2 => 3600 | 3 => 60 | _ => 0
def tW : Nat → Nat | 0 => 2400 | 1 => 2400 | 2 => 1200 | 3 => 400 | 4 => 100 | _ => 0
def bW : Nat → Nat | 0 => 486 | 1 => 162 | 2 => 54 | 3 => 18 | 4 => 6 | _ => 0
def eW : Nat → Int | 0 => 77760 | 1 => 12960 | 2 => 2160 | 3 => 360 | 4 => 60 | _ => 0
def tR : Nat → Nat | 0 => 2700 | 1 => 900 | 2 => 300 | 3 => 100 | _ => 0
def bR : Nat → Nat | 0 => 162 | 1 => 54 | 2 => 18 | 3 => 6 | _ => 0
def eR : Nat → Int | 0 => 12960 | 1 => 2160 | 2 => 360 | 3 => 60 | _ => 0
set_option maxHeartbeats 1000000 in
set_option maxRecDepth 100000 in
theorem lt4 {k : Nat} (h : k ≤ 3) : k = 0 ∨ k = 1 ∨ k = 2 ∨ k = 3 := by omega
set_option maxHeartbeats 1000000 in
set_option maxRecDepth 100000 in
theorem tL_facts {k : Nat} (h : k ≤ 3) : tL k * 1 ≤ 2700 ∧ bL k * 5 ≤ 3750 ∧ eL k * 60 ∣ 2332800000 ∧ 100 ≤ tL k ∧ 6 ≤ bL k ∧ 60 ∣ eL k := by
  rcases lt4 h with rfl | rfl | rfl | rfl <;> decide
set_option maxHeartbeats 1000000 in
set_option maxRecDepth 100000 in
theorem tL_step {k : Nat} (h : k + 1 ≤ 3) : tL (k + 1) * (k + 1) ≤ tL k ∧ bL (k + 1) * 5 ≤ bL k ∧ eL (k + 1) * 60 ∣ eL k := by
  have : k = 0 ∨ k = 1 ∨ k = 2 := by omega
  rcases this with rfl | rfl | rfl <;> decide
set_option maxHeartbeats 1000000 in
set_option maxRecDepth 100000 in
theorem tW_facts {k : Nat} (h : k ≤ 4) : tW k * 1 ≤ 2700 ∧ bW k * 3 ≤ 3750 ∧ eW k * 6 ∣ 2332800000 ∧ 100 ≤ tW k ∧ 6 ≤ bW k ∧ 60 ∣ eW k := by
  have : k = 0 ∨ k = 1 ∨ k = 2 ∨ k = 3 ∨ k = 4 := by omega
  rcases this with rfl | rfl | rfl | rfl | rfl <;> decide
set_option maxHeartbeats 1000000 in
set_option maxRecDepth 100000 in
theorem tW_step {k : Nat} (h : k + 1 ≤ 4) : tW (k + 1) * (k + 1) ≤ tW k ∧ bW (k + 1) * 3 ≤ bW k ∧ eW (k + 1) * 6 ∣ eW k := by
  have : k = 0 ∨ k = 1 ∨ k = 2 ∨ k = 3 := by omega
  rcases this with rfl | rfl | rfl | rfl <;> decide
set_option maxHeartbeats 1000000 in
set_option maxRecDepth 100000 in
theorem tR_facts {k : Nat} (h : k ≤ 3) : tR k * 1 ≤ 2700 ∧ bR k * 3 ≤ 3750 ∧ eR k * 6 ∣ 2332800000 ∧ 100 ≤ tR k ∧ 6 ≤ bR k ∧ 60 ∣ eR k ∧ eR k ∣ 2332800000 ∧ bR k ≤ 3750 ∧ tR k ≤ 2700 := by
  rcases lt4 h with rfl | rfl | rfl | rfl <;> decide
set_option maxHeartbeats 1000000 in
set_option maxRecDepth 100000 in
theorem tR_step {k : Nat} (h : k + 1 ≤ 3) : tR (k + 1) * 3 ≤ tR k ∧ bR (k + 1) * 3 ≤ bR k ∧ eR (k + 1) * 6 ∣ eR k := by
  have : k = 0 ∨ k = 1 ∨ k = 2 := by omega
  rcases this with rfl | rfl | rfl <;> decide
set_option maxHeartbeats 1000000 in
set_option maxRecDepth 100000 in
theorem dvd60 {c : Int} (h : c ≠ 0) (h' : c.natAbs ≤ 5) : c ∣ 60 := by
  have : c = 1 ∨ c = 2 ∨ c = 3 ∨ c = 4 ∨ c = 5 ∨ c = -1 ∨ c = -2 ∨ c = -3 ∨ c = -4 ∨ c = -5 := by omega
  rcases this with rfl | rfl | rfl | rfl | rfl | rfl | rfl | rfl | rfl | rfl <;> decide
set_option maxHeartbeats 1000000 in
set_option maxRecDepth 100000 in
theorem dvd6 {c : Int} (h : c ≠ 0) (h' : c.natAbs ≤ 3) : c ∣ 6 := by
  have : c = 1 ∨ c = 2 ∨ c = 3 ∨ c = -1 ∨ c = -2 ∨ c = -3 := by omega
  rcases this with rfl | rfl | rfl | rfl | rfl | rfl <;> decide
set_option maxHeartbeats 1000000 in
set_option maxRecDepth 100000 in
theorem cl_log {m : Int} (hm : m ≠ -1) (hm1 : -4 ≤ m) (hm2 : m ≤ 4) : ∀ (k fu : Nat) (w : SumS) (n : Nat) (K : Nat → Nat) (F : Nat → Rat) (M : Nat) (t b : Int) (V : Rat), k ≤ 3 → k + 1 < fu → n + k + 1 ≤ 200 → sRep w n K F → scl 2332800000 M F → M + (k + 1) * 6298560000000 ≤ 1259712000000000 → qv V t b (tL k) (bL k) (eL k) →
    ∃ w' n' K', f_X0_integrateLog_33 200 fu w (I32 m) (I64 t) (I64 b) (nI k) = some w' ∧ sRep w' n' K' (addF F (logC m k V)) ∧ gS_ov w' = gS_ov w ∧ n' ≤ n + k + 1 ∧ scl 2332800000 (M + (k + 1) * 6298560000000) (addF F (logC m k V)) := by
  have e1 : I32 m + 1 = I32 (m + 1) := I32_add m 1
  have hx : m + 1 ≠ 0 := by omega
  have hx' : (m + 1).natAbs ≤ 5 := by omega
  intro k
  induction k with
  | zero =>
    intro fu w n K F M t b V hk hf hn R hs hM hq
    obtain ⟨fu, rfl⟩ : ∃ f, fu = f + 2 := ⟨fu - 2, by omega⟩
    obtain ⟨f1, f2, f3, -⟩ := tL_facts hk
    have q1 := qv_mono (qv_mul hq 1 (m + 1) hx (A := 1) (by omega) hx' (dvd60 hx hx')) f1 f2 f3
    rw [Int.mul_one] at q1
    obtain ⟨w', n', K', p1, p2, p3, p4, p5⟩ := put_int (nS := 200) (by omega) R hs (by omega) (by omega) (kd := 1) (ag := 0) (pw := m + 1) (by omega) (by omega) (by omega) q1
    refine ⟨w', n', K', ?_, p2, p3, by omega, scl_mono (show scl 2332800000 (M + 6298560000000) (addF F _) from p5) (by omega)⟩
    rw [f_X0_integrateLog_33, if_neg (show ¬ nI 0 < 0 by decide), e1, toInt64_I (by omega) (by omega), I64_mul]
    simp only [Option.bind_some]
    rw [show f_X4_put 200 w 1 (nI 0) (I32 (m + 1)) (I64 t) (I64 (b * (m + 1))) = some w' from p1, Option.bind_some, f_X0_integrateLog_33, if_pos (show nI 0 + -1 < 0 by decide)]
  | succ k ih =>
    intro fu w n K F M t b V hk hf hn R hs hM hq
    obtain ⟨fu, rfl⟩ : ∃ f, fu = f + 1 := ⟨fu - 1, by omega⟩
    obtain ⟨f1, f2, f3, -⟩ := tL_facts hk
    obtain ⟨g1, g2, g3⟩ := tL_step hk
    have q1 := qv_mono (qv_mul hq 1 (m + 1) hx (A := 1) (by omega) hx' (dvd60 hx hx')) f1 f2 f3
    rw [Int.mul_one] at q1
    have q2 := qv_mono (qv_mul hq (-((k + 1 : Nat) : Int)) (m + 1) hx (A := k + 1) (by omega) hx' (dvd60 hx hx')) g1 g2 g3
    obtain ⟨w1, n1, K1, p1, p2, p3, p4, p5⟩ := put_int (nS := 200) (by omega) R hs (by omega) (by omega) (kd := 1) (ag := ((k + 1 : Nat) : Int)) (pw := m + 1) (by omega) (by omega) (by omega) q1
    obtain ⟨w', n', K', r1, r2, r3, r4, r5⟩ := ih fu w1 n1 K1 _ (M + 6298560000000) _ _ _ (by omega) (by omega) (by omega) p2 p5 (by omega) q2
    rw [addF_assoc] at r2 r5
    refine ⟨w', n', K', ?_, r2, r3.trans p3, by omega, scl_mono r5 (by omega)⟩
    have hneg : ¬ nI (k + 1) < 0 := fun h => by have := (qI_lt (n := k + 1) (m := 0) (by omega) (by omega)).mp h; omega
    have e2 : nI (k + 1) + -1 = nI k := nI_addm1 (by omega)
    rw [f_X0_integrateLog_33, if_neg hneg, e1, toInt64_I (by omega) (by omega), I64_mul, e2, ← I32_nI (k + 1), I32_neg, toInt64_I (by omega) (by omega), I64_mul]
    simp only [Option.bind_some]
    rw [show f_X4_put 200 w 1 (I32 ((k + 1 : Nat) : Int)) (I32 (m + 1)) (I64 t) (I64 (b * (m + 1))) = some w1 from p1, Option.bind_some]
    exact r1
set_option maxHeartbeats 1000000 in
set_option maxRecDepth 100000 in
theorem sgI_abs (kd : Nat) : (sgI kd).natAbs ≤ 1 ∧ (sgI kd = 1 ∨ sgI kd = -1) := by unfold sgI; split <;> omega
set_option maxHeartbeats 1000000 in
set_option maxRecDepth 100000 in
theorem sgD_abs (kd : Nat) : (sgD kd).natAbs ≤ 1 ∧ (sgD kd = 1 ∨ sgD kd = -1) := by unfold sgD; split <;> omega
set_option maxHeartbeats 1000000 in
set_option maxRecDepth 100000 in
theorem trn_rng {kd : Nat} (h : 2 ≤ kd) (h' : kd ≤ 4) : 2 ≤ trn kd ∧ trn kd ≤ 4 := by unfold trn; split <;> (try split) <;> omega
set_option maxHeartbeats 1000000 in
set_option maxRecDepth 100000 in
theorem turned_eq {kd : Nat} (h : 2 ≤ kd) (h' : kd ≤ 4) : f_X0_turned (nI kd) = some (nI (trn kd)) ∧ f_X0_signIntegrated (nI kd) = some (I32 (sgI kd)) ∧ f_X0_signDerived (nI kd) = some (I32 (sgD kd)) := by
  have : kd = 2 ∨ kd = 3 ∨ kd = 4 := by omega
  rcases this with rfl | rfl | rfl <;> exact ⟨by decide, by decide, by decide⟩
set_option maxHeartbeats 1000000 in
set_option maxRecDepth 100000 in
theorem toInt64_s {x : Int} (h : x = 1 ∨ x = -1) : (I32 x).toInt64 = I64 x := toInt64_I (by omega) (by omega)
set_option maxHeartbeats 1000000 in
set_option maxRecDepth 100000 in
theorem cl_low {m : Int} (hm : m ≠ 0) (hm1 : m.natAbs ≤ 3) : ∀ (p fu : Nat) (w : SumS) (n : Nat) (K : Nat → Nat) (F : Nat → Rat) (M : Nat) (t b : Int) (V : Rat) (kd : Nat), p ≤ 4 → p + 1 < fu → n + p + 1 ≤ 200 → 2 ≤ kd → kd ≤ 4 → sRep w n K F → scl 2332800000 M F → M + (p + 1) * 6298560000000 ≤ 1259712000000000 → qv V t b (tW p) (bW p) (eW p) →
    ∃ w' n' K', f_X0_lowerPower_14 200 fu w (I32 m) (nI kd) (I64 t) (I64 b) (nI p) = some w' ∧ sRep w' n' K' (addF F (lowC m p kd V)) ∧ gS_ov w' = gS_ov w ∧ n' ≤ n + p + 1 ∧ scl 2332800000 (M + (p + 1) * 6298560000000) (addF F (lowC m p kd V)) := by
  intro p
  induction p with
  | zero =>
    intro fu w n K F M t b V kd hk hf hn k2 k4 R hs hM hq
    obtain ⟨fu, rfl⟩ : ∃ f, fu = f + 2 := ⟨fu - 2, by omega⟩
    obtain ⟨f1, f2, f3, -⟩ := tW_facts hk
    obtain ⟨s1, s2⟩ := sgI_abs kd
    obtain ⟨t1, t2⟩ := trn_rng k2 k4
    obtain ⟨u1, u2, -⟩ := turned_eq k2 k4
    have q1 := qv_mono (qv_mul hq (sgI kd) m hm s1 hm1 (dvd6 hm hm1)) f1 f2 f3
    obtain ⟨w', n', K', p1, p2, p3, p4, p5⟩ := put_int (nS := 200) (by omega) R hs (by omega) (by omega) (kd := trn kd) (ag := m) (pw := 0) t2 (by omega) (by omega) q1
    refine ⟨w', n', K', ?_, p2, p3, by omega, scl_mono (show scl 2332800000 (M + 6298560000000) (addF F _) from p5) (by omega)⟩
    rw [f_X0_lowerPower_14, if_neg (show ¬ nI 0 < 0 by decide), u1, u2]
    simp only [Option.bind_some]
    rw [toInt64_s s2, toInt64_I (by omega) (by omega), I64_mul, I64_mul, show f_X4_put 200 w (nI (trn kd)) (I32 m) (nI 0) (I64 (t * sgI kd)) (I64 (b * m)) = some w' from p1]
    simp only [Option.bind_some]
    rw [f_X0_lowerPower_14, if_pos (show nI 0 + -1 < 0 by decide)]
  | succ p ih =>
    intro fu w n K F M t b V kd hk hf hn k2 k4 R hs hM hq
    obtain ⟨fu, rfl⟩ : ∃ f, fu = f + 1 := ⟨fu - 1, by omega⟩
    obtain ⟨f1, f2, f3, -⟩ := tW_facts hk
    obtain ⟨g1, g2, g3⟩ := tW_step hk
    obtain ⟨s1, s2⟩ := sgI_abs kd
    obtain ⟨t1, t2⟩ := trn_rng k2 k4
    obtain ⟨u1, u2, -⟩ := turned_eq k2 k4
    have q1 := qv_mono (qv_mul hq (sgI kd) m hm s1 hm1 (dvd6 hm hm1)) f1 f2 f3
    have q2 := qv_mono (qv_mul hq (sgI kd * -((p + 1 : Nat) : Int)) m hm (A := p + 1) (by have := absmul s1 (show (-((p + 1 : Nat) : Int)).natAbs ≤ p + 1 by omega); omega) hm1 (dvd6 hm hm1)) g1 g2 g3
    obtain ⟨w1, n1, K1, p1, p2, p3, p4, p5⟩ := put_int (nS := 200) (by omega) R hs (by omega) (by omega) (kd := trn kd) (ag := m) (pw := ((p + 1 : Nat) : Int)) t2 (by omega) (by omega) q1
    obtain ⟨w', n', K', r1, r2, r3, r4, r5⟩ := ih fu w1 n1 K1 _ (M + 6298560000000) _ _ _ (trn kd) (by omega) (by omega) (by omega) t1 t2 p2 p5 (by omega) q2
    rw [addF_assoc] at r2 r5
    refine ⟨w', n', K', ?_, r2, r3.trans p3, by omega, scl_mono r5 (by omega)⟩
    have hneg : ¬ nI (p + 1) < 0 := fun h => by have := (qI_lt (n := p + 1) (m := 0) (by omega) (by omega)).mp h; omega
    have e2 : nI (p + 1) + -1 = nI p := nI_addm1 (by omega)
    rw [f_X0_lowerPower_14, if_neg hneg, u1, u2, e2, ← I32_nI (p + 1), I32_neg]
    simp only [Option.bind_some]
    rw [toInt64_s s2, toInt64_I (by omega) (by omega), toInt64_I (by omega) (by omega), I64_mul, I64_mul, I64_mul, p1]
    simp only [Option.bind_some]
    rw [Int.mul_assoc]
    exact r1
set_option maxHeartbeats 1000000 in
set_option maxRecDepth 100000 in
theorem cl_rai {m : Int} (hm : m ≠ 0) (hm1 : m.natAbs ≤ 3) : ∀ (d fu : Nat) (w l : SumS) (n nl : Nat) (K Kl : Nat → Nat) (F G : Nat → Rat) (M Ml : Nat) (t b : Int) (V : Rat) (kd : Nat), d ≤ 3 → d < fu → n + d ≤ 200 → nl + 1 ≤ 40 → 2 ≤ kd → kd ≤ 4 → sRep w n K F → scl 2332800000 M F → M + d * 6298560000000 ≤ 1259712000000000 → sRep l nl Kl G → scl 2332800000 Ml G → Ml ≤ 1259712000000000 → qv V t b (tR d) (bR d) (eR d) →
    ∃ w' n' K' l' nl' Kl', f_X0_raisePower_15 200 40 fu w l (I32 m) (nI kd) (I64 t) (I64 b) (I32 (-((d + 1 : Nat) : Int))) = some (w', l') ∧ sRep w' n' K' (addF F (raiC m d kd V)) ∧ gS_ov w' = gS_ov w ∧ n' ≤ n + d ∧ scl 2332800000 (M + d * 6298560000000) (addF F (raiC m d kd V)) ∧
      sRep l' nl' Kl' (addF G (raiL m d kd V)) ∧ gS_ov l' = gS_ov l ∧ nl' ≤ nl + 1 ∧ scl 2332800000 (Ml + 6298560000000) (addF G (raiL m d kd V)) := by
  intro d
  induction d with
  | zero =>
    intro fu w l n nl K Kl F G M Ml t b V kd hk hf hn hnl k2 k4 R hs hM Rl hsl hMl hq
    obtain ⟨fu, rfl⟩ : ∃ f, fu = f + 1 := ⟨fu - 1, by omega⟩
    have q1 := qv_mono hq (T' := 2700) (B' := 3750) (E' := 2332800000) (by decide) (by decide) (by decide)
    obtain ⟨l', nl', Kl', p1, p2, p3, p4, p5⟩ := put_int (nS := 40) (by omega) Rl hsl hMl (by omega) (kd := kd) (ag := m) (pw := -1) k4 (by omega) (by omega) q1
    refine ⟨w, n, K, l', nl', Kl', ?_, by rw [show addF F (raiC m 0 kd V) = F from addF_0 F]; exact R, rfl, by omega, by rw [show addF F (raiC m 0 kd V) = F from addF_0 F]; exact scl_mono hs (by omega), p2, p3, p4, p5⟩
    rw [f_X0_raisePower_15, if_pos (show (-1 : Int32) ≤ I32 (-((0 + 1 : Nat) : Int)) by decide), show f_X4_put 40 l (nI kd) (I32 m) (-1) (I64 t) (I64 b) = some l' from p1]
    rfl
  | succ d ih =>
    intro fu w l n nl K Kl F G M Ml t b V kd hk hf hn hnl k2 k4 R hs hM Rl hsl hMl hq
    obtain ⟨fu, rfl⟩ : ∃ f, fu = f + 1 := ⟨fu - 1, by omega⟩
    obtain ⟨f1, f2, f3, -⟩ := tR_facts hk
    obtain ⟨g1, g2, g3⟩ := tR_step hk
    obtain ⟨s1, s2⟩ := sgD_abs kd
    obtain ⟨t1, t2⟩ := trn_rng k2 k4
    obtain ⟨u1, -, u3⟩ := turned_eq k2 k4
    have hc : (-((d + 1 : Nat) : Int)) ≠ 0 := by omega
    have hc' : (-((d + 1 : Nat) : Int)).natAbs ≤ 3 := by omega
    have q1 := qv_mono (qv_mul hq 1 _ hc (A := 1) (by omega) hc' (dvd6 hc hc')) f1 f2 f3
    rw [Int.mul_one] at q1
    have hab : (-m * sgD kd).natAbs ≤ 3 := by have := absmul (show (-m).natAbs ≤ 3 by omega) s1; omega
    have q2 := qv_mono (qv_mul hq (-m * sgD kd) _ hc hab hc' (dvd6 hc hc')) g1 g2 g3
    obtain ⟨w1, n1, K1, p1, p2, p3, p4, p5⟩ := put_int (nS := 200) (by omega) R hs (by omega) (by omega) (kd := kd) (ag := m) (pw := -((d + 1 : Nat) : Int)) k4 (by omega) (by omega) q1
    obtain ⟨w', n', K', l', nl', Kl', r1, r2, r3, r4, r5, r6⟩ := ih fu w1 l n1 nl K1 Kl _ G (M + 6298560000000) Ml _ _ _ (trn kd) (by omega) (by omega) (by omega) hnl t1 t2 p2 p5 (by omega) Rl hsl hMl q2
    rw [addF_assoc] at r2 r5
    refine ⟨w', n', K', l', nl', Kl', ?_, r2, r3.trans p3, by omega, scl_mono r5 (by omega), r6⟩
    have hneg : ¬ (-1 : Int32) ≤ I32 (-((d + 1 + 1 : Nat) : Int)) := fun h => by
      have := (I32_le (a := -1) (b := -((d + 1 + 1 : Nat) : Int)) (by omega) (by omega) (by omega) (by omega)).mp h; omega
    have e2 : I32 (-((d + 1 + 1 : Nat) : Int)) + 1 = I32 (-((d + 1 : Nat) : Int)) := by
      have := I32_add (-((d + 1 + 1 : Nat) : Int)) 1
      rw [show -((d + 1 + 1 : Nat) : Int) + 1 = -((d + 1 : Nat) : Int) by omega] at this
      exact this
    have hr : -3 ≤ -m * sgD kd ∧ -m * sgD kd ≤ 3 := by omega
    rw [f_X0_raisePower_15, if_neg hneg, u1, u3, e2, toInt64_I (by omega) (by omega), I64_mul]
    simp only [Option.bind_some]
    rw [I32_neg, I32_mul, toInt64_I (by omega) (by omega), I64_mul, p1]
    simp only [Option.bind_some]
    exact r1
def intC (k : Nat) (V : Rat) : Nat → Rat :=
  if V = 0 then fun _ => 0 else if kdK k ≤ 1 then (if pwK k = -1 then dl 1 (agK k + 1) 0 (V * Rat.divInt 1 (agK k + 1)) else logC (pwK k) (agK k).toNat V)
  else if 0 ≤ pwK k then lowC (agK k) (pwK k).toNat (kdK k) V else raiC (agK k) (-1 - pwK k).toNat (kdK k) V
def intL (k : Nat) (V : Rat) : Nat → Rat :=
  if V = 0 then fun _ => 0 else if kdK k ≤ 1 then fun _ => 0 else if 0 ≤ pwK k then fun _ => 0 else raiL (agK k) (-1 - pwK k).toNat (kdK k) V
set_option maxHeartbeats 1000000 in
set_option maxRecDepth 100000 in
theorem qv_small {V : Rat} (h : smV V) {T B : Nat} {E : Int} (hT : 100 ≤ T) (hB : 6 ≤ B) (hE : 60 ∣ E) : qv V V.num V.den T B E := by
  obtain ⟨y, e, -, -⟩ := den60 h
  have hd := V.den_nz
  exact ⟨(Rat.num_divInt_den V).symm, by omega, Nat.le_trans h.1 hT, by have := h.2; omega, Int.dvd_trans ⟨y, e.symm⟩ hE⟩
set_option maxHeartbeats 1000000 in
set_option maxRecDepth 100000 in
theorem cl_intLog {w : SumS} {n : Nat} {K : Nat → Nat} {F : Nat → Rat} {M : Nat} {ag m : Int} {V : Rat} (hV : smV V) (a0 : 0 ≤ ag) (a3 : ag ≤ 3) (m1 : -4 ≤ m) (m2 : m ≤ 4) (hn : n + 5 ≤ 200) (R : sRep w n K F) (hs : scl 2332800000 M F) (hM : M + 31492800000000 ≤ 1259712000000000) :
    ∃ w' n' K', f_X0_integrateLog 200 w (I32 ag) (I32 m) (I64 V.num) (I64 V.den) = some w' ∧ sRep w' n' K' (addF F (if m = -1 then dl 1 (ag + 1) 0 (V * Rat.divInt 1 (ag + 1)) else logC m ag.toNat V)) ∧ gS_ov w' = gS_ov w ∧ n' ≤ n + 5 ∧ scl 2332800000 (M + 31492800000000) (addF F (if m = -1 then dl 1 (ag + 1) 0 (V * Rat.divInt 1 (ag + 1)) else logC m ag.toNat V)) := by
  unfold f_X0_integrateLog
  have em : I32 m = -1 ↔ m = -1 := I32_inj (b := -1) (by omega) (by omega) (by omega) (by omega)
  by_cases c : m = -1
  · rw [if_neg (fun h => h (em.mpr c)), if_pos c]
    have hq := qv_mono (qv_mul (qv_small hV (T := 100) (B := 6) (E := 60) (by omega) (by omega) (by decide)) 1 (ag + 1) (by omega) (A := 1) (C := 4) (by omega) (by omega) (dvd60 (by omega) (by omega))) (T' := 2700) (B' := 3750) (E' := 2332800000) (by omega) (by omega) (by decide)
    rw [Int.mul_one] at hq
    obtain ⟨w', n', K', p1, p2, p3, p4, p5⟩ := put_int (nS := 200) (by omega) R hs (by omega) (by omega) (kd := 1) (ag := ag + 1) (pw := 0) (by omega) (by omega) (by omega) hq
    have e1 : I32 ag + 1 = I32 (ag + 1) := I32_add ag 1
    rw [e1, toInt64_I (by omega) (by omega), I64_mul, show f_X4_put 200 w 1 (I32 (ag + 1)) 0 (I64 V.num) (I64 (V.den * (ag + 1))) = some w' from p1]
    exact ⟨w', n', K', rfl, p2, p3, by omega, scl_mono p5 (by omega)⟩
  · rw [if_pos (fun h => c (em.mp h)), if_neg c]
    obtain ⟨g, rfl⟩ : ∃ g : Nat, ag = g := ⟨ag.toNat, by omega⟩
    obtain ⟨-, -, -, t1, t2, t3⟩ := tL_facts (k := g) (by omega)
    rw [I32_nI, show ((g : Int)).toNat = g by omega]
    obtain ⟨w', n', K', p1, p2, p3, p4, p5⟩ := cl_log c m1 m2 g fuel w n K F M V.num V.den V (by omega) (by rw [fuel_eq]; omega) (by omega) R hs (by omega) (qv_small hV t1 t2 t3)
    exact ⟨w', n', K', p1, p2, p3, by omega, scl_mono p5 (by omega)⟩
section CInt
variable {za : SumS} {na : Nat} {Ka : Nat → Nat} {A : Nat → Rat}
set_option maxHeartbeats 1000000 in
set_option maxRecDepth 100000 in
theorem cl_int (RA : sRep za na Ka A) (hna : na ≤ 40) (hA : ∀ i, i < na → smK (Ka i) ∧ smV (A (Ka i))) : ∀ (d fu i n nl : Nat) (w l : SumS) (K Kl : Nat → Nat), i + d = na → d < fu → n ≤ 5 * i → nl ≤ i → sRep w n K (sumL (pre Ka i) (fun k => intC k (A k))) → scl 2332800000 (i * 31492800000000) (sumL (pre Ka i) (fun k => intC k (A k))) → sRep l nl Kl (sumL (pre Ka i) (fun k => intL k (A k))) → scl 2332800000 (i * 6298560000000) (sumL (pre Ka i) (fun k => intL k (A k))) →
    ∃ w' l' n' nl' K' Kl', f_X0_putIntegral_2 200 40 40 za fu w l (nI i) = some (w', l') ∧ n' ≤ 200 ∧ nl' ≤ 40 ∧ gS_ov w' = gS_ov w ∧ gS_ov l' = gS_ov l ∧ sRep w' n' K' (sumL (pre Ka na) (fun k => intC k (A k))) ∧ scl 2332800000 (na * 31492800000000) (sumL (pre Ka na) (fun k => intC k (A k))) ∧ sRep l' nl' Kl' (sumL (pre Ka na) (fun k => intL k (A k))) ∧ scl 2332800000 (na * 6298560000000) (sumL (pre Ka na) (fun k => intL k (A k))) := by
  intro d
  induction d with
  | zero =>
    intro fu i n nl w l K Kl hi hf hn hnl Rw sw Rl sl
    obtain ⟨fu, rfl⟩ : ∃ f, fu = f + 1 := ⟨fu - 1, by omega⟩
    have : i = na := by omega
    subst this
    refine ⟨w, l, n, nl, K, Kl, ?_, by omega, by omega, rfl, rfl, Rw, sw, Rl, sl⟩
    rw [f_X0_putIntegral_2]
    unfold f_X4_size
    rw [RA.1, Option.bind_some, if_pos ((qI_le (by omega) (by omega)).mpr (Nat.le_refl _))]
  | succ d ih =>
    intro fu i n nl w l K Kl hi hf hn hnl Rw sw Rl sl
    obtain ⟨fu, rfl⟩ : ∃ f, fu = f + 1 := ⟨fu - 1, by omega⟩
    have hin : i < na := by omega
    obtain ⟨sk, sv⟩ := hA i hin
    obtain ⟨a1, a2, a3, a4, a5, a6, a7⟩ := smK_facts sk
    have hne : A (Ka i) ≠ 0 := (RA.2.2.2.2.2.1 i hin).1
    have hi39 : i ≤ 39 := by omega
    obtain ⟨Mi, hMi, hb, hMi'⟩ : ∃ Mi, i * 31492800000000 ≤ Mi ∧ Mi ≤ 1228219200000000 ∧ Mi + 31492800000000 ≤ (i + 1) * 31492800000000 := ⟨i * 31492800000000, Nat.le_refl _, Nat.le_trans (Nat.mul_le_mul_right _ hi39) (by decide), Nat.le_of_eq (Nat.succ_mul i _).symm⟩
    obtain ⟨Mj, hMj, hb2, hMj'⟩ : ∃ Mj, i * 6298560000000 ≤ Mj ∧ Mj ≤ 245643840000000 ∧ Mj + 6298560000000 ≤ (i + 1) * 6298560000000 := ⟨i * 6298560000000, Nat.le_refl _, Nat.le_trans (Nat.mul_le_mul_right _ hi39) (by decide), Nat.le_of_eq (Nat.succ_mul i _).symm⟩
    replace sw := scl_mono sw hMi
    replace sl := scl_mono sl hMj
    clear hMi hMj
    have next : ∀ w1 l1 n1 nl1 K1 Kl1, sRep w1 n1 K1 (addF (sumL (pre Ka i) (fun k => intC k (A k))) (intC (Ka i) (A (Ka i)))) → n1 ≤ n + 5 → scl 2332800000 (Mi + 31492800000000) (addF (sumL (pre Ka i) (fun k => intC k (A k))) (intC (Ka i) (A (Ka i)))) → gS_ov w1 = gS_ov w →
        sRep l1 nl1 Kl1 (addF (sumL (pre Ka i) (fun k => intL k (A k))) (intL (Ka i) (A (Ka i)))) → nl1 ≤ nl + 1 → scl 2332800000 (Mj + 6298560000000) (addF (sumL (pre Ka i) (fun k => intL k (A k))) (intL (Ka i) (A (Ka i)))) → gS_ov l1 = gS_ov l →
        ∃ w' l' n' nl' K' Kl', f_X0_putIntegral_108 200 40 40 za (fun zS_ zE_ x3_ => f_X0_putIntegral_2 200 40 40 za fu zS_ zE_ x3_) w1 l1 (nI i) = some (w', l') ∧ n' ≤ 200 ∧ nl' ≤ 40 ∧ gS_ov w' = gS_ov w ∧ gS_ov l' = gS_ov l ∧ sRep w' n' K' (sumL (pre Ka na) (fun k => intC k (A k))) ∧ scl 2332800000 (na * 31492800000000) (sumL (pre Ka na) (fun k => intC k (A k))) ∧ sRep l' nl' Kl' (sumL (pre Ka na) (fun k => intL k (A k))) ∧ scl 2332800000 (na * 6298560000000) (sumL (pre Ka na) (fun k => intL k (A k))) := by
      intro w1 l1 n1 nl1 K1 Kl1 r1 r2 r3 r4 s1 s2 s3 s4
      have x1 := sumL_pre_succ Ka i (fun k => intC k (A k))
      have x2 := sumL_pre_succ Ka i (fun k => intL k (A k))
      rw [← x1] at r1 r3
      rw [← x2] at s1 s3
      obtain ⟨w', l', n', nl', K', Kl', p1, p2, p3, p4, p5, p6⟩ := ih fu (i + 1) n1 nl1 w1 l1 K1 Kl1 (by omega) (by omega) (by omega) (by omega) r1 (scl_mono r3 hMi') s1 (scl_mono s3 hMj')
      refine ⟨w', l', n', nl', K', Kl', ?_, p2, p3, p4.trans r4, p5.trans s4, p6⟩
      unfold f_X0_putIntegral_108
      rw [nI_add1]
      exact p1
    clear hMi' hMj'
    rw [f_X0_putIntegral_2]
    unfold f_X4_size
    rw [RA.1, Option.bind_some, if_neg (fun h => by have := (qI_le (by omega) (by omega)).mp h; omega), kindAt_eq RA hna (by omega) hin, argAt_eq RA hna (by omega) hin, powAt_eq RA hna (by omega) hin, topAt_eq RA hna (by omega) hin, bottomAt_eq RA hna (by omega) hin]
    simp only [Option.bind_some]
    clear RA hA
    generalize hV : A (Ka i) = V at *
    generalize hkd : kdK (Ka i) = kd at *
    generalize hag : agK (Ka i) = ag at *
    generalize hpw : pwK (Ka i) = pw at *
    have l1 : -4 ≤ pw ∧ pw ≤ 4 := by omega
    have l2 : -3 ≤ ag ∧ ag ≤ 3 := by omega
    have k0 : nI kd = 0 ↔ kd = 0 := nI_inj (m := 0) (by omega) (by omega)
    have k1 : nI kd = 1 ↔ kd = 1 := nI_inj (m := 1) (by omega) (by omega)
    have logc : kd ≤ 1 → ∃ w' l' n' nl' K' Kl', f_X0_putIntegral_56 200 40 40 za (fun zS_ zE_ x3_ => f_X0_putIntegral_2 200 40 40 za fu zS_ zE_ x3_) w l (nI i) (I32 ag) (I32 pw) (I64 V.num) (I64 V.den) = some (w', l') ∧ n' ≤ 200 ∧ nl' ≤ 40 ∧ gS_ov w' = gS_ov w ∧ gS_ov l' = gS_ov l ∧ sRep w' n' K' (sumL (pre Ka na) (fun k => intC k (A k))) ∧ scl 2332800000 (na * 31492800000000) (sumL (pre Ka na) (fun k => intC k (A k))) ∧ sRep l' nl' Kl' (sumL (pre Ka na) (fun k => intL k (A k))) ∧ scl 2332800000 (na * 6298560000000) (sumL (pre Ka na) (fun k => intL k (A k))) := by
      intro hk
      have hag0 : 0 ≤ ag := by
        by_cases c : kd = 0
        · have := a4 c; omega
        · have := a5 (by omega); omega
      obtain ⟨w1, n1, K1, p1, p2, p3, p4, p5⟩ := cl_intLog sv hag0 l2.2 l1.1 l1.2 (by omega) Rw sw (by omega)
      unfold f_X0_putIntegral_56
      rw [p1, Option.bind_some]
      have e1 : intC (Ka i) V = (if pw = -1 then dl 1 (ag + 1) 0 (V * Rat.divInt 1 (ag + 1)) else logC pw ag.toNat V) := by
        unfold intC; rw [if_neg hne, hkd, if_pos hk, hpw, hag]
      have e2 : intL (Ka i) V = fun _ => 0 := by unfold intL; rw [if_neg hne, hkd, if_pos hk]
      rw [← e1] at p2 p5
      exact next w1 l n1 nl K1 Kl p2 p4 p5 p3 (by rw [e2, addF_0]; exact Rl) (by omega) (by rw [e2, addF_0]; exact scl_mono sl (by omega)) rfl
    by_cases c0 : kd = 0
    · rw [if_pos (k0.mpr c0)]; exact logc (by omega)
    rw [if_neg (fun h => c0 (k0.mp h))]
    by_cases c1 : kd = 1
    · rw [if_neg (fun h => h (k1.mpr c1))]; exact logc (by omega)
    rw [if_pos (fun h => c1 (k1.mp h))]
    have hag0 : ag ≠ 0 := by
      by_cases c : kd = 2
      · exact a6 c
      · have := a7 (by unfold wav; omega); omega
    have plt : I32 pw < 0 ↔ pw < 0 := I32_lt (b := 0) (by omega) (by omega) (by omega) (by omega)
    by_cases cp : pw < 0
    · rw [if_pos (plt.mpr cp)]
      obtain ⟨dd, hdd⟩ : ∃ dd : Nat, pw = -((dd + 1 : Nat) : Int) := ⟨(-1 - pw).toNat, by omega⟩
      obtain ⟨-, -, -, t1, t2, t3, -⟩ := tR_facts (k := dd) (by omega)
      have ed : (-1 - pw).toNat = dd := by omega
      obtain ⟨w1, n1, K1, l1', nl1, Kl1, p1, p2, p3, p4, p5, p6, p7, p8, p9⟩ := cl_rai hag0 a3 dd fuel w l n nl K Kl _ _ _ _ V.num V.den V kd (by omega) (by rw [fuel_eq]; omega) (by omega) (by omega) (by omega) a1 Rw sw (by omega) Rl sl (by omega) (qv_small sv t1 t2 t3)
      have e1 : intC (Ka i) V = raiC ag dd kd V := by
        unfold intC; rw [if_neg hne, hkd, if_neg (by omega), hpw, if_neg (by omega), hag, ed]
      have e2 : intL (Ka i) V = raiL ag dd kd V := by unfold intL; rw [if_neg hne, hkd, if_neg (by omega), hpw, if_neg (by omega), hag, ed]
      unfold f_X0_raisePower
      rw [hdd, p1, Option.bind_some]
      rw [← e1] at p2 p5
      rw [← e2] at p6 p9
      exact next w1 l1' n1 nl1 K1 Kl1 p2 (by omega) (scl_mono p5 (by omega)) p3 p6 p8 p9 p7
    · rw [if_neg (fun h => cp (plt.mp h))]
      obtain ⟨p, hp⟩ : ∃ p : Nat, pw = p := ⟨pw.toNat, by omega⟩
      obtain ⟨-, -, -, t1, t2, t3⟩ := tW_facts (k := p) (by omega)
      obtain ⟨w1, n1, K1, p1, p2, p3, p4, p5⟩ := cl_low hag0 a3 p fuel w n K _ _ V.num V.den V kd (by omega) (by rw [fuel_eq]; omega) (by omega) (by omega) a1 Rw sw (by omega) (qv_small sv t1 t2 t3)
      have ed : pw.toNat = p := by omega
      have e1 : intC (Ka i) V = lowC ag p kd V := by
        unfold intC; rw [if_neg hne, hkd, if_neg (by omega), hpw, if_pos (by omega), hag, ed]
      have e2 : intL (Ka i) V = fun _ => 0 := by unfold intL; rw [if_neg hne, hkd, if_neg (by omega), hpw, if_pos (by omega)]
      unfold f_X0_lowerPower
      rw [hp, I32_nI, p1, Option.bind_some]
      rw [← e1] at p2 p5
      exact next w1 l n1 nl K1 Kl p2 (by omega) (scl_mono p5 (by omega)) p3 (by rw [e2, addF_0]; exact Rl) (by omega) (by rw [e2, addF_0]; exact scl_mono sl (by omega)) rfl
end CInt
set_option maxHeartbeats 1000000 in
set_option maxRecDepth 100000 in
theorem qv_s64 {V : Rat} {t b : Int} {T B : Nat} {E : Int} (h : qv V t b T B E) (hT : T ≤ 2700) (hB : B ≤ 3750) {a c : Int} (ha : a.natAbs ≤ 10) (hc : c.natAbs ≤ 10) : s64 (V.num * a) ∧ s64 (V.den * c) := by
  obtain ⟨b1, b2⟩ := qv_num h
  have g1 := absmul (Nat.le_trans b1 hT) ha
  have g2 : ((V.den : Int) * c).natAbs ≤ 3750 * 10 := absmul (by omega) hc
  exact ⟨r64_of_abs g1 (by omega), r64_of_abs g2 (by omega)⟩
set_option maxHeartbeats 1000000 in
set_option maxRecDepth 100000 in
theorem mul_ne0 {V : Rat} (h : V ≠ 0) {a c : Int} (ha : a ≠ 0) (hc : c ≠ 0) : V * Rat.divInt a c ≠ 0 := by
  intro e
  rcases Rat.mul_eq_zero.mp e with e | e
  · exact h e
  · exact ha ((divInt_eq0 hc).mp e)
set_option maxHeartbeats 1000000 in
set_option maxRecDepth 100000 in
theorem top_ne {z : MdS} {V : Rat} {t b : Int} {T B : Nat} {E : Int} (h : qv V t b T B E) (hT : T ≤ 2700) (h1 : gM_top z = I64 V.num) (hV : V ≠ 0) : ¬ gM_top z = 0 := by
  rw [h1]
  exact fun e => hV ((num0 V (r64_of_abs (Nat.le_trans (qv_num h).1 hT) (by omega))).mp e)
set_option maxHeartbeats 1000000 in
set_option maxRecDepth 100000 in
theorem m_log {m : Int} (hm : m ≠ -1) (hm1 : -4 ≤ m) (hm2 : m ≤ 4) : ∀ (k fu : Nat) (z : MdS) (F : Nat → Rat) (M : Nat) (t b : Int) (V : Rat), k ≤ 3 → k + 1 < fu → V ≠ 0 → gM_top z = I64 V.num → gM_bottom z = I64 (V.den : Int) → rRep z 8 F → scl 2332800000 M F → M + (k + 1) * 6298560000000 ≤ 1259712000000000 → qv V t b (tL k) (bL k) (eL k) →
    ∃ z', f_X7_integrateLog_22 fu z (I32 m) (nI k) = some z' ∧ rRep z' 8 (addF F (logC m k V)) ∧ mSame z z' ∧ mRow z z' 8 ∧ gM_isFull z' = gM_isFull z ∧ scl 2332800000 (M + (k + 1) * 6298560000000) (addF F (logC m k V)) := by
  have e1 : I32 m + 1 = I32 (m + 1) := I32_add m 1
  have e1' : I64 m + 1 = I64 (m + 1) := I64_add m 1
  have hx : m + 1 ≠ 0 := by omega
  have hx' : (m + 1).natAbs ≤ 5 := by omega
  intro k
  induction k with
  | zero =>
    intro fu z F M t b V hk hf hV h1 h2 R hs hM hq
    obtain ⟨fu, rfl⟩ : ∃ f, fu = f + 2 := ⟨fu - 2, by omega⟩
    obtain ⟨f1, f2, f3, -⟩ := tL_facts hk
    have q1 := qv_mono (qv_mul hq 1 (m + 1) hx (A := 1) (by omega) hx' (dvd60 hx hx')) f1 f2 f3
    obtain ⟨s1, s2⟩ := qv_s64 hq (by omega) (by omega) (a := 1) (c := m + 1) (by omega) (by omega)
    obtain ⟨s3, -⟩ := qv_s64 hq (by omega) (by omega) (a := 0) (c := m + 1) (by omega) (by omega)
    obtain ⟨z1, p1, p2, p3, p4, p5, p6, p7, p8⟩ := lay_eq R hs (by omega) h1 h2 (kd := 1) (ag := 0) (pw := m + 1) (by omega) (by omega) (by omega) (by omega) (by omega) 1 (m + 1) hx s1 s2 q1
    refine ⟨uM_bottom (uM_top z1 (I64 (V * Rat.divInt 0 (m + 1)).num)) (I64 ((V * Rat.divInt 0 (m + 1)).den : Int)), ?_, p2, p3, p4, p5, scl_mono (show scl 2332800000 (M + 6298560000000) (addF F _) from p8) (by omega)⟩
    rw [f_X7_integrateLog_22, if_neg (show ¬ nI 0 < 0 by decide), if_neg (top_ne hq (by omega) h1 hV), e1, toInt64_I (by omega) (by omega), e1', show f_X7_lay z 1 (nI 0) (I32 (m + 1)) 1 (I64 (m + 1)) = some z1 from p1]
    simp only [Option.bind_some]
    rw [show (-nI 0).toInt64 = I64 0 by decide, scale_eq z1 (p6.trans h1) (p7.trans h2) 0 (m + 1) hx s3 s2]
    simp only [Option.bind_some]
    rw [f_X7_integrateLog_22, if_pos (show nI 0 + -1 < 0 by decide)]
  | succ k ih =>
    intro fu z F M t b V hk hf hV h1 h2 R hs hM hq
    obtain ⟨fu, rfl⟩ : ∃ f, fu = f + 1 := ⟨fu - 1, by omega⟩
    obtain ⟨f1, f2, f3, -⟩ := tL_facts hk
    obtain ⟨g1, g2, g3⟩ := tL_step hk
    have q1 := qv_mono (qv_mul hq 1 (m + 1) hx (A := 1) (by omega) hx' (dvd60 hx hx')) f1 f2 f3
    have q2 := qv_mono (qv_mul hq (-((k + 1 : Nat) : Int)) (m + 1) hx (A := k + 1) (by omega) hx' (dvd60 hx hx')) g1 g2 g3
    obtain ⟨s1, s2⟩ := qv_s64 hq (by omega) (by omega) (a := 1) (c := m + 1) (by omega) (by omega)
    obtain ⟨s3, -⟩ := qv_s64 hq (by omega) (by omega) (a := -((k + 1 : Nat) : Int)) (c := m + 1) (by omega) (by omega)
    obtain ⟨z1, p1, p2, p3, p4, p5, p6, p7, p8⟩ := lay_eq R hs (by omega) h1 h2 (kd := 1) (ag := ((k + 1 : Nat) : Int)) (pw := m + 1) (by omega) (by omega) (by omega) (by omega) (by omega) 1 (m + 1) hx s1 s2 q1
    obtain ⟨z', r1, r2, r3, r4, r5, r6⟩ := ih fu (uM_bottom (uM_top z1 (I64 (V * Rat.divInt (-((k + 1 : Nat) : Int)) (m + 1)).num)) (I64 ((V * Rat.divInt (-((k + 1 : Nat) : Int)) (m + 1)).den : Int))) _ (M + 6298560000000) _ _ _ (by omega) (by omega) (mul_ne0 hV (a := -((k + 1 : Nat) : Int)) (c := m + 1) (by omega) hx) rfl rfl p2 p8 (by omega) q2
    rw [addF_assoc] at r2 r6
    have r3' : mSame z1 z' := r3
    have r4' : mRow z1 z' 8 := r4
    have r5' : gM_isFull z' = gM_isFull z1 := r5
    refine ⟨z', ?_, r2, p3.trans r3', p4.trans r4', r5'.trans p5, scl_mono r6 (by omega)⟩
    have hneg : ¬ nI (k + 1) < 0 := fun h => by have := (qI_lt (n := k + 1) (m := 0) (by omega) (by omega)).mp h; omega
    have e2 : nI (k + 1) + -1 = nI k := nI_addm1 (by omega)
    rw [f_X7_integrateLog_22, if_neg hneg, if_neg (top_ne hq (by omega) h1 hV), e1, toInt64_I (by omega) (by omega), e1', e2, ← I32_nI (k + 1), I32_neg, show f_X7_lay z 1 (I32 ((k + 1 : Nat) : Int)) (I32 (m + 1)) 1 (I64 (m + 1)) = some z1 from p1]
    simp only [Option.bind_some]
    rw [toInt64_I (by omega) (by omega), scale_eq z1 (p6.trans h1) (p7.trans h2) _ (m + 1) hx s3 s2]
    simp only [Option.bind_some]
    exact r1
set_option maxHeartbeats 1000000 in
set_option maxRecDepth 100000 in
theorem other36 (kb : MdS → Int32 → Int32 → Int32 → Int32 → Option MdS) (z : MdS) (x2 x3 x5 : Int32) {kd : Nat} (h : 2 ≤ kd) (h' : kd ≤ 4) : (if ¬ nI kd = (2 : Int32) then f_X7_integrateOther_36 kb z x2 x3 (nI kd) x5 ((7 : Int32) - nI kd) else f_X7_integrateOther_36 kb z x2 x3 (nI kd) x5 (2 : Int32)) = (f_X7_lay z (nI (trn kd)) x2 x5 (I64 (sgI kd)) x2.toInt64).bind fun r_1 => (f_X7_scale r_1 (if kd = 3 then x5.toInt64 else (-x5).toInt64) x2.toInt64).bind fun r_2 => kb r_2 x2 x3 (nI (trn kd)) (x5 + -1) := by
  have : kd = 2 ∨ kd = 3 ∨ kd = 4 := by omega
  rcases this with rfl | rfl | rfl <;> rfl
set_option maxHeartbeats 1000000 in
set_option maxRecDepth 100000 in
theorem other140 (kb : MdS → Int32 → Int32 → Int32 → Int32 → Option MdS) (r_4 : MdS) (x2 x3 x5 : Int32) {kd : Nat} (h : 2 ≤ kd) (h' : kd ≤ 4) : (if ¬ nI kd = (4 : Int32) then f_X7_integrateOther_140 kb r_4 x2 x3 (nI kd) x5 ((-x2).toInt64) else f_X7_integrateOther_140 kb r_4 x2 x3 (nI kd) x5 x2.toInt64) = (f_X7_scale r_4 (if kd = 4 then x2.toInt64 else (-x2).toInt64) (x5.toInt64 + (1 : Int64))).bind fun r_1 => kb r_1 x2 x3 (nI (trn kd)) (x5 + 1) := by
  have : kd = 2 ∨ kd = 3 ∨ kd = 4 := by omega
  rcases this with rfl | rfl | rfl <;> rfl
set_option maxHeartbeats 1000000 in
set_option maxRecDepth 100000 in
theorem m_low {m : Int} (hm : m ≠ 0) (hm1 : m.natAbs ≤ 3) (P : Nat) (hP : P ≤ 4) : ∀ (p fu : Nat) (z : MdS) (F : Nat → Rat) (M : Nat) (t b : Int) (V : Rat) (kd : Nat), p ≤ 4 → p + 1 < fu → 2 ≤ kd → kd ≤ 4 → V ≠ 0 → gM_top z = I64 V.num → gM_bottom z = I64 (V.den : Int) → rRep z 8 F → scl 2332800000 M F → M + (p + 1) * 6298560000000 ≤ 1259712000000000 → qv V t b (tW p) (bW p) (eW p) →
    ∃ z', f_X7_integrateOther_6 fu z (I32 m) (nI P) (nI kd) (nI p) = some z' ∧ rRep z' 8 (addF F (lowC m p kd V)) ∧ mSame z z' ∧ mRow z z' 8 ∧ gM_isFull z' = gM_isFull z ∧ scl 2332800000 (M + (p + 1) * 6298560000000) (addF F (lowC m p kd V)) := by
  have m3 : -3 ≤ m ∧ m ≤ 3 := by omega
  intro p
  induction p with
  | zero =>
    intro fu z F M t b V kd hk hf k2 k4 hV h1 h2 R hs hM hq
    obtain ⟨fu, rfl⟩ : ∃ f, fu = f + 2 := ⟨fu - 2, by omega⟩
    obtain ⟨f1, f2, f3, -⟩ := tW_facts hk
    obtain ⟨s1, s2⟩ := sgI_abs kd
    obtain ⟨t1, t2⟩ := trn_rng k2 k4
    have q1 := qv_mono (qv_mul hq (sgI kd) m hm s1 hm1 (dvd6 hm hm1)) f1 f2 f3
    obtain ⟨d1, d2⟩ := qv_s64 hq (by omega) (by omega) (a := sgI kd) (c := m) (by omega) (by omega)
    obtain ⟨d3, -⟩ := qv_s64 hq (by omega) (by omega) (a := 0) (c := m) (by omega) (by omega)
    obtain ⟨z1, p1, p2, p3, p4, p5, p6, p7, p8⟩ := lay_eq R hs (by omega) h1 h2 (kd := trn kd) (ag := m) (pw := 0) t2 (by omega) (by omega) (fun h => by omega) (fun h => by omega) (sgI kd) m hm d1 d2 q1
    refine ⟨uM_bottom (uM_top z1 (I64 (V * Rat.divInt 0 m).num)) (I64 ((V * Rat.divInt 0 m).den : Int)), ?_, p2, p3, p4, p5, scl_mono (show scl 2332800000 (M + 6298560000000) (addF F _) from p8) (by omega)⟩
    rw [f_X7_integrateOther_6, if_neg (show ¬ nI 0 < 0 by decide), if_neg (top_ne hq (by omega) h1 hV), other36 _ z _ _ _ k2 k4, toInt64_I (by omega) (by omega), show f_X7_lay z (nI (trn kd)) (I32 m) (nI 0) (I64 (sgI kd)) (I64 m) = some z1 from p1]
    simp only [Option.bind_some]
    have e0 : (if kd = 3 then (nI 0).toInt64 else (-nI 0).toInt64) = I64 0 := by split <;> decide
    rw [e0, scale_eq z1 (p6.trans h1) (p7.trans h2) 0 m hm d3 d2]
    simp only [Option.bind_some]
    rw [f_X7_integrateOther_6, if_pos (show nI 0 + -1 < 0 by decide)]
    rw [show fuel = 11999 + 1 from rfl, f_X7_integrateOther_102, if_pos (show (-1 : Int32) ≤ nI 0 + -1 by decide), if_pos (show (0 : Int32) ≤ nI P from (qI_le (n := 0) (by omega) (by omega)).mpr (by omega))]
  | succ p ih =>
    intro fu z F M t b V kd hk hf k2 k4 hV h1 h2 R hs hM hq
    obtain ⟨fu, rfl⟩ : ∃ f, fu = f + 1 := ⟨fu - 1, by omega⟩
    obtain ⟨f1, f2, f3, -⟩ := tW_facts hk
    obtain ⟨g1, g2, g3⟩ := tW_step hk
    obtain ⟨s1, s2⟩ := sgI_abs kd
    obtain ⟨t1, t2⟩ := trn_rng k2 k4
    have q1 := qv_mono (qv_mul hq (sgI kd) m hm s1 hm1 (dvd6 hm hm1)) f1 f2 f3
    have ab : (sgI kd * -((p + 1 : Nat) : Int)).natAbs ≤ p + 1 := by have := absmul s1 (show (-((p + 1 : Nat) : Int)).natAbs ≤ p + 1 by omega); omega
    have q2 := qv_mono (qv_mul hq (sgI kd * -((p + 1 : Nat) : Int)) m hm (A := p + 1) ab hm1 (dvd6 hm hm1)) g1 g2 g3
    obtain ⟨d1, d2⟩ := qv_s64 hq (by omega) (by omega) (a := sgI kd) (c := m) (by omega) (by omega)
    obtain ⟨d3, -⟩ := qv_s64 hq (by omega) (by omega) (a := sgI kd * -((p + 1 : Nat) : Int)) (c := m) (by omega) (by omega)
    obtain ⟨z1, p1, p2, p3, p4, p5, p6, p7, p8⟩ := lay_eq R hs (by omega) h1 h2 (kd := trn kd) (ag := m) (pw := ((p + 1 : Nat) : Int)) t2 (by omega) (by omega) (fun h => by omega) (fun h => by omega) (sgI kd) m hm d1 d2 q1
    have hne : sgI kd * -((p + 1 : Nat) : Int) ≠ 0 := Int.mul_ne_zero (by omega) (by omega)
    obtain ⟨z', r1, r2, r3, r4, r5, r6⟩ := ih fu (uM_bottom (uM_top z1 (I64 (V * Rat.divInt (sgI kd * -((p + 1 : Nat) : Int)) m).num)) (I64 ((V * Rat.divInt (sgI kd * -((p + 1 : Nat) : Int)) m).den : Int))) _ (M + 6298560000000) _ _ _ (trn kd) (by omega) (by omega) t1 t2 (mul_ne0 hV hne hm) rfl rfl p2 p8 (by omega) q2
    rw [addF_assoc] at r2 r6
    have r3' : mSame z1 z' := r3
    have r4' : mRow z1 z' 8 := r4
    have r5' : gM_isFull z' = gM_isFull z1 := r5
    refine ⟨z', ?_, r2, p3.trans r3', p4.trans r4', r5'.trans p5, scl_mono r6 (by omega)⟩
    have hneg : ¬ nI (p + 1) < 0 := fun h => by have := (qI_lt (n := p + 1) (m := 0) (by omega) (by omega)).mp h; omega
    have e2 : nI (p + 1) + -1 = nI p := nI_addm1 (by omega)
    have e3 : (if kd = 3 then (I32 ((p + 1 : Nat) : Int)).toInt64 else (-I32 ((p + 1 : Nat) : Int)).toInt64) = I64 (sgI kd * -((p + 1 : Nat) : Int)) := by
      unfold sgI
      split
      · rw [toInt64_I (by omega) (by omega)]; congr 1; omega
      · rw [I32_neg, toInt64_I (by omega) (by omega), Int.one_mul]
    rw [f_X7_integrateOther_6, if_neg hneg, if_neg (top_ne hq (by omega) h1 hV), other36 _ z _ _ _ k2 k4, e2, ← I32_nI (p + 1), e3, toInt64_I (by omega) (by omega), p1]
    simp only [Option.bind_some]
    rw [scale_eq z1 (p6.trans h1) (p7.trans h2) _ m hm d3 d2]
    simp only [Option.bind_some]
    exact r1
def mLow (z w : MdS) : Prop := ∀ j, j < 9200 → gM_up w j = gM_up z j ∧ gM_down w j = gM_down z j
set_option maxHeartbeats 1000000 in
set_option maxRecDepth 100000 in
theorem mLow.rfl' (z : MdS) : mLow z z := fun _ _ => ⟨rfl, rfl⟩
set_option maxHeartbeats 1000000 in
set_option maxRecDepth 100000 in
theorem mLow.trans {a b c : MdS} (h : mLow a b) (g : mLow b c) : mLow a c := fun j hj => ⟨(g j hj).1.trans (h j hj).1, (g j hj).2.trans (h j hj).2⟩
set_option maxHeartbeats 1000000 in
set_option maxRecDepth 100000 in
theorem mRow.low {z w : MdS} {r : Nat} (h : mRow z w r) (hr : 8 ≤ r) : mLow z w := fun j hj => h j (by omega)
set_option maxHeartbeats 1000000 in
set_option maxRecDepth 100000 in
theorem rRep.low {z w : MdS} {r : Nat} {F : Nat → Rat} (h : rRep z r F) (g : mLow z w) (hr : r < 8) : rRep w r F := by
  intro c hc
  have := g (1150 * r + c) (by omega)
  exact ⟨this.1.trans (h c hc).1, this.2.trans (h c hc).2⟩
set_option maxHeartbeats 1000000 in
set_option maxRecDepth 100000 in
theorem m_rai {m : Int} (hm : m ≠ 0) (hm1 : m.natAbs ≤ 3) (P : Int) (hP : P < 0) (hP' : -4 ≤ P) : ∀ (d fu : Nat) (z : MdS) (F G : Nat → Rat) (M Ml : Nat) (t b : Int) (V : Rat) (kd : Nat), d ≤ 3 → d < fu → 2 ≤ kd → kd ≤ 4 → V ≠ 0 → gM_top z = I64 V.num → gM_bottom z = I64 (V.den : Int) → rRep z 8 F → rRep z 9 G → scl 2332800000 M F → M + d * 6298560000000 ≤ 1259712000000000 → scl 2332800000 Ml G → Ml ≤ 1259712000000000 → qv V t b (tR d) (bR d) (eR d) →
    ∃ z', f_X7_integrateOther_102 fu z (I32 m) (I32 P) (nI kd) (I32 (-((d + 1 : Nat) : Int))) = some z' ∧ rRep z' 8 (addF F (raiC m d kd V)) ∧ rRep z' 9 (addF G (raiL m d kd V)) ∧ mSame z z' ∧ mLow z z' ∧ gM_isFull z' = gM_isFull z ∧ scl 2332800000 (M + d * 6298560000000) (addF F (raiC m d kd V)) ∧ scl 2332800000 (Ml + 6298560000000) (addF G (raiL m d kd V)) := by
  have m3 : -3 ≤ m ∧ m ≤ 3 := by omega
  intro d
  induction d with
  | zero =>
    intro fu z F G M Ml t b V kd hk hf k2 k4 hV h1 h2 R Rl hs hM hsl hMl hq
    obtain ⟨fu, rfl⟩ : ∃ f, fu = f + 1 := ⟨fu - 1, by omega⟩
    have q1 := qv_mono hq (T' := 2700) (B' := 3750) (E' := 2332800000) (by decide) (by decide) (by decide)
    obtain ⟨z1, p1, p2, p3, p4, p5, p6, p7, p8⟩ := addT_int (row := 9) (by omega) Rl hsl hMl (kd := kd) (ag := m) (pw := -1) k4 (by omega) (by omega) (fun h => by omega) (fun h => by omega) q1
    have e0 : addF F (raiC m 0 kd V) = F := addF_0 F
    refine ⟨z1, ?_, by rw [e0]; exact R.keep p4 (by omega), p2, p3, p4.low (by omega), p5, by rw [e0]; exact scl_mono hs (by omega), p8⟩
    have hPn : ¬ (0 : Int32) ≤ I32 P := fun h => by
      have := (I32_le (a := 0) (b := P) (by omega) (by omega) (by omega) (by omega)).mp h; omega
    rw [f_X7_integrateOther_102, if_pos (show (-1 : Int32) ≤ I32 (-((0 + 1 : Nat) : Int)) by decide), if_neg hPn, h1, h2, show f_X7_addTerm z 9 (nI kd) (I32 m) (-1) (I64 V.num) (I64 V.den) = some z1 from p1]
    rfl
  | succ d ih =>
    intro fu z F G M Ml t b V kd hk hf k2 k4 hV h1 h2 R Rl hs hM hsl hMl hq
    obtain ⟨fu, rfl⟩ : ∃ f, fu = f + 1 := ⟨fu - 1, by omega⟩
    obtain ⟨f1, f2, f3, -, -, -, -, f8, f9⟩ := tR_facts hk
    obtain ⟨g1, g2, g3⟩ := tR_step hk
    obtain ⟨s1, s2⟩ := sgD_abs kd
    obtain ⟨t1, t2⟩ := trn_rng k2 k4
    have hc : (-((d + 1 : Nat) : Int)) ≠ 0 := by omega
    have hc' : (-((d + 1 : Nat) : Int)).natAbs ≤ 3 := by omega
    have q1 := qv_mono (qv_mul hq 1 _ hc (A := 1) (by omega) hc' (dvd6 hc hc')) f1 f2 f3
    have hab : (-m * sgD kd).natAbs ≤ 3 := by have := absmul (show (-m).natAbs ≤ 3 by omega) s1; omega
    have q2 := qv_mono (qv_mul hq (-m * sgD kd) _ hc hab hc' (dvd6 hc hc')) g1 g2 g3
    obtain ⟨d1, d2⟩ := qv_s64 hq f9 f8 (a := 1) (c := -((d + 1 : Nat) : Int)) (by omega) (by omega)
    obtain ⟨d3, -⟩ := qv_s64 hq f9 f8 (a := -m * sgD kd) (c := -((d + 1 : Nat) : Int)) (by omega) (by omega)
    obtain ⟨z1, p1, p2, p3, p4, p5, p6, p7, p8⟩ := lay_eq R hs (by omega) h1 h2 (kd := kd) (ag := m) (pw := -((d + 1 : Nat) : Int)) k4 (by omega) (by omega) (fun h => by omega) (fun h => by omega) 1 (-((d + 1 : Nat) : Int)) hc d1 d2 q1
    have hne : -m * sgD kd ≠ 0 := Int.mul_ne_zero (by omega) (by omega)
    obtain ⟨z', r1, r2, r2', r3, r4, r5, r6, r7⟩ := ih fu (uM_bottom (uM_top z1 (I64 (V * Rat.divInt (-m * sgD kd) (-((d + 1 : Nat) : Int))).num)) (I64 ((V * Rat.divInt (-m * sgD kd) (-((d + 1 : Nat) : Int))).den : Int))) _ G (M + 6298560000000) Ml _ _ _ (trn kd) (by omega) (by omega) t1 t2 (mul_ne0 hV hne hc) rfl rfl p2 (Rl.keep p4 (by omega)) p8 (by omega) hsl hMl q2
    rw [addF_assoc] at r2 r6
    have r3' : mSame z1 z' := r3
    have r4' : mLow z1 z' := r4
    have r5' : gM_isFull z' = gM_isFull z1 := r5
    refine ⟨z', ?_, r2, r2', p3.trans r3', (p4.low (by omega)).trans r4', r5'.trans p5, scl_mono r6 (by omega), r7⟩
    have hneg : ¬ (-1 : Int32) ≤ I32 (-((d + 1 + 1 : Nat) : Int)) := fun h => by
      have := (I32_le (a := -1) (b := -((d + 1 + 1 : Nat) : Int)) (by omega) (by omega) (by omega) (by omega)).mp h; omega
    have e2 : I32 (-((d + 1 + 1 : Nat) : Int)) + 1 = I32 (-((d + 1 : Nat) : Int)) := by
      have := I32_add (-((d + 1 + 1 : Nat) : Int)) 1
      rw [show -((d + 1 + 1 : Nat) : Int) + 1 = -((d + 1 : Nat) : Int) by omega] at this
      exact this
    have e4 : (I32 (-((d + 1 + 1 : Nat) : Int))).toInt64 + 1 = I64 (-((d + 1 : Nat) : Int)) := by
      rw [toInt64_I (by omega) (by omega)]
      have := I64_add (-((d + 1 + 1 : Nat) : Int)) 1
      rw [show -((d + 1 + 1 : Nat) : Int) + 1 = -((d + 1 : Nat) : Int) by omega] at this
      exact this
    have e3 : (if kd = 4 then (I32 m).toInt64 else (-I32 m).toInt64) = I64 (-m * sgD kd) := by
      unfold sgD
      split
      · rw [toInt64_I (by omega) (by omega), Int.neg_mul_neg, Int.mul_one]
      · rw [I32_neg, toInt64_I (by omega) (by omega), Int.mul_one]
    rw [f_X7_integrateOther_102, if_neg hneg]
    simp only [e2, e4]
    rw [show f_X7_lay z (nI kd) (I32 m) (I32 (-((d + 1 : Nat) : Int))) 1 (I64 (-((d + 1 : Nat) : Int))) = some z1 from p1]
    simp only [Option.bind_some]
    rw [other140 _ z1 _ _ _ k2 k4, e3, e4, scale_eq z1 (p6.trans h1) (p7.trans h2) _ _ hc d3 d2]
    simp only [Option.bind_some]
    rw [e2]
    exact r1
set_option maxHeartbeats 1000000 in
set_option maxRecDepth 100000 in
theorem supV_logC {m : Int} (hm1 : -4 ≤ m) (hm2 : m ≤ 4) : ∀ (k : Nat) (V : Rat), k ≤ 3 → supV (logC m k V) := by
  intro k
  induction k with
  | zero => exact fun V h => supV_dl (vk_nkey (by omega) (by omega) (by omega) (by omega) (by omega))
  | succ k ih => exact fun V h => supV_add (supV_dl (vk_nkey (by omega) (by omega) (by omega) (by omega) (by omega))) (ih _ (by omega))
set_option maxHeartbeats 1000000 in
set_option maxRecDepth 100000 in
theorem supV_lowC {m : Int} (hm1 : m.natAbs ≤ 3) : ∀ (p kd : Nat) (V : Rat), p ≤ 4 → 2 ≤ kd → kd ≤ 4 → supV (lowC m p kd V) := by
  intro p
  induction p with
  | zero => exact fun kd V h k2 k4 => supV_dl (vk_nkey (trn_rng k2 k4).2 (by omega) (by omega) (fun h => by have := (trn_rng k2 k4).1; omega) (fun h => by have := (trn_rng k2 k4).1; omega))
  | succ p ih => exact fun kd V h k2 k4 => supV_add (supV_dl (vk_nkey (trn_rng k2 k4).2 (by omega) (by omega) (fun h => by have := (trn_rng k2 k4).1; omega) (fun h => by have := (trn_rng k2 k4).1; omega))) (ih _ _ (by omega) (trn_rng k2 k4).1 (trn_rng k2 k4).2)
set_option maxHeartbeats 1000000 in
set_option maxRecDepth 100000 in
theorem supV_raiC {m : Int} (hm1 : m.natAbs ≤ 3) : ∀ (d kd : Nat) (V : Rat), d ≤ 3 → 2 ≤ kd → kd ≤ 4 → supV (raiC m d kd V) ∧ supV (raiL m d kd V) := by
  intro d
  induction d with
  | zero => exact fun kd V h k2 k4 => ⟨supV_0, supV_dl (vk_nkey k4 (by omega) (by omega) (fun h => by omega) (fun h => by omega))⟩
  | succ d ih =>
    intro kd V h k2 k4
    have := ih (trn kd) (V * Rat.divInt (-m * sgD kd) (-((d + 1 : Nat) : Int))) (by omega) (trn_rng k2 k4).1 (trn_rng k2 k4).2
    exact ⟨supV_add (supV_dl (vk_nkey k4 (by omega) (by omega) (fun h => by omega) (fun h => by omega))) this.1, this.2⟩
set_option maxHeartbeats 1000000 in
set_option maxRecDepth 100000 in
theorem supV_int {k : Nat} {V : Rat} (h : V ≠ 0 → smK k) : supV (intC k V) ∧ supV (intL k V) := by
  unfold intC intL
  by_cases c : V = 0
  · rw [if_pos c, if_pos c]; exact ⟨supV_0, supV_0⟩
  rw [if_neg c, if_neg c]
  obtain ⟨a1, a2, a3, a4, a5, a6, a7⟩ := smK_facts (h c)
  by_cases c1 : kdK k ≤ 1
  · rw [if_pos c1, if_pos c1]
    refine ⟨?_, supV_0⟩
    have h0 : 0 ≤ agK k := by
      by_cases x : kdK k = 0
      · have := a4 x; omega
      · have := a5 (by omega); omega
    by_cases c2 : pwK k = -1
    · rw [if_pos c2]; exact supV_dl (vk_nkey (by omega) (by omega) (by omega) (by omega) (by omega))
    · rw [if_neg c2]; exact supV_logC (by omega) (by omega) _ _ (by omega)
  · rw [if_neg c1, if_neg c1]
    by_cases c2 : 0 ≤ pwK k
    · rw [if_pos c2, if_pos c2]; exact ⟨supV_lowC a3 _ _ _ (by omega) (by omega) a1, supV_0⟩
    · rw [if_neg c2, if_neg c2]; exact supV_raiC a3 _ _ _ (by omega) (by omega) a1
set_option maxHeartbeats 1000000 in
set_option maxRecDepth 100000 in
theorem m_intLog {z : MdS} {F : Nat → Rat} {M : Nat} {ag m : Int} {V : Rat} (hV : smV V) (hV0 : V ≠ 0) (h1 : gM_top z = I64 V.num) (h2 : gM_bottom z = I64 (V.den : Int)) (a0 : 0 ≤ ag) (a3 : ag ≤ 3) (m1 : -4 ≤ m) (m2 : m ≤ 4) (R : rRep z 8 F) (hs : scl 2332800000 M F) (hM : M + 31492800000000 ≤ 1259712000000000) :
    ∃ z', f_X7_integrateLog z (I32 ag) (I32 m) = some z' ∧ rRep z' 8 (addF F (if m = -1 then dl 1 (ag + 1) 0 (V * Rat.divInt 1 (ag + 1)) else logC m ag.toNat V)) ∧ mSame z z' ∧ mRow z z' 8 ∧ gM_isFull z' = gM_isFull z ∧ scl 2332800000 (M + 31492800000000) (addF F (if m = -1 then dl 1 (ag + 1) 0 (V * Rat.divInt 1 (ag + 1)) else logC m ag.toNat V)) := by
  unfold f_X7_integrateLog
  have em : I32 m = -1 ↔ m = -1 := I32_inj (b := -1) (by omega) (by omega) (by omega) (by omega)
  by_cases c : m = -1
  · rw [if_neg (fun h => h (em.mpr c)), if_pos c]
    have hq0 := qv_small hV (T := 100) (B := 6) (E := 60) (by omega) (by omega) (by decide)
    have hq := qv_mono (qv_mul hq0 1 (ag + 1) (by omega) (A := 1) (C := 4) (by omega) (by omega) (dvd60 (by omega) (by omega))) (T' := 2700) (B' := 3750) (E' := 2332800000) (by omega) (by omega) (by decide)
    obtain ⟨d1, d2⟩ := qv_s64 hq0 (by omega) (by omega) (a := 1) (c := ag + 1) (by omega) (by omega)
    obtain ⟨z1, p1, p2, p3, p4, p5, p6, p7, p8⟩ := lay_eq R hs (by omega) h1 h2 (kd := 1) (ag := ag + 1) (pw := 0) (by omega) (by omega) (by omega) (fun _ => by omega) (fun h => by omega) 1 (ag + 1) (by omega) d1 d2 hq
    have e1 : I32 ag + 1 = I32 (ag + 1) := I32_add ag 1
    have e1' : I64 ag + 1 = I64 (ag + 1) := I64_add ag 1
    rw [e1, toInt64_I (by omega) (by omega), e1', show f_X7_lay z 1 (I32 (ag + 1)) 0 1 (I64 (ag + 1)) = some z1 from p1]
    exact ⟨z1, rfl, p2, p3, p4, p5, scl_mono p8 (by omega)⟩
  · rw [if_pos (fun h => c (em.mp h)), if_neg c]
    obtain ⟨g, rfl⟩ : ∃ g : Nat, ag = g := ⟨ag.toNat, by omega⟩
    obtain ⟨-, -, -, t1, t2, t3⟩ := tL_facts (k := g) (by omega)
    rw [I32_nI, show ((g : Int)).toNat = g by omega]
    obtain ⟨z', p1, p2, p3, p4, p5, p6⟩ := m_log c m1 m2 g fuel z F M V.num V.den V (by omega) (by rw [fuel_eq]; omega) hV0 h1 h2 R hs (by omega) (qv_small hV t1 t2 t3)
    exact ⟨z', p1, p2, p3, p4, p5, scl_mono p6 (by omega)⟩
set_option maxHeartbeats 1000000 in
set_option maxRecDepth 100000 in
theorem cnt_mono (A : Nat → Rat) {a b : Nat} (h : a ≤ b) : cnt A a ≤ cnt A b := by
  induction b with
  | zero => have : a = 0 := by omega
            rw [this]; exact Nat.le_refl _
  | succ b ih =>
    by_cases c : a ≤ b
    · have := ih c; show cnt A a ≤ cnt A b + _; omega
    · have : a = b + 1 := by omega
      rw [this]; exact Nat.le_refl _
def mIntEnd (z : MdS) (x1 x2 : Int32) : Option (Int32 × MdS) := (f_X7_fits z (8 : Int32)).bind fun r_2 => if r_2 = 0 then some ((-4 : Int32), z) else (f_X7_fits z (9 : Int32)).bind fun r_4 => if ¬ r_4 = 0 then (f_X7_copy z x1 (8 : Int32)).bind fun r_6 => (f_X7_copy r_6 x2 (9 : Int32)).bind fun r_7 => (f_X7_termsOf r_7 (9 : Int32)).bind fun r_8 => some (r_8, r_7) else some ((-4 : Int32), z)
set_option maxHeartbeats 1000000 in
set_option maxRecDepth 100000 in
theorem kd_ge (c : Nat) (h : c < 1150) : 10 ≤ c / 25 ↔ 2 ≤ kdK (kc c) := by
  rw [kc_kd h]
  have := kdF_cases (c / 25) (by omega)
  omega
set_option maxHeartbeats 1000000 in
set_option maxRecDepth 100000 in
theorem m_int {A : Nat → Rat} {a : Nat} (ha : a < 8) (hA : ∀ k, A k ≠ 0 → smK k ∧ smV (A k)) (hcn : cnt A 1150 ≤ 40) (x1 x2 : Int32) : ∀ (d fu c : Nat) (z : MdS), c + d = 1150 → d < fu → rRep z 8 (sumL (pre kc c) (fun k => intC k (A k))) → rRep z 9 (sumL (pre kc c) (fun k => intL k (A k))) → scl 2332800000 (cnt A c * 31492800000000) (sumL (pre kc c) (fun k => intC k (A k))) → scl 2332800000 (cnt A c * 6298560000000) (sumL (pre kc c) (fun k => intL k (A k))) → rRep z a A →
    ∃ z', f_X7_integrate_79 fu z x1 x2 (nI a) (nI c) = mIntEnd z' x1 x2 ∧ rRep z' 8 (sumL (pre kc 1150) (fun k => intC k (A k))) ∧ rRep z' 9 (sumL (pre kc 1150) (fun k => intL k (A k))) ∧ mSame z z' ∧ mLow z z' ∧ gM_isFull z' = gM_isFull z := by
  intro d
  induction d with
  | zero =>
    intro fu c z hc hf R8 R9 s8 s9 RA
    obtain ⟨fu, rfl⟩ : ∃ f, fu = f + 1 := ⟨fu - 1, by omega⟩
    have : c = 1150 := by omega
    subst this
    refine ⟨z, ?_, R8, R9, mSame.rfl' z, mLow.rfl' z, rfl⟩
    rw [f_X7_integrate_79, if_pos (show (1150 : Int32) ≤ nI 1150 by decide)]
    rfl
  | succ d ih =>
    intro fu c z hc hf R8 R9 s8 s9 RA
    obtain ⟨fu, rfl⟩ : ∃ f, fu = f + 1 := ⟨fu - 1, by omega⟩
    have hc' : c < 1150 := by omega
    have e1 : inb (nI (1150 * a + c)) nUD = true := inU (by omega)
    have e2 : (nI (1150 * a + c)).toNatClampNeg = 1150 * a + c := nI_nat (by omega)
    have e3 : nI (c % 25) - (12 : Int32) = I32 ((c % 25 : Nat) - 12) := by
      rw [← I32_nI]; exact I32_sub _ 12
    have x8 := sumL_pre_succ kc c (fun k => intC k (A k))
    have x9 := sumL_pre_succ kc c (fun k => intL k (A k))
    have hcs : cnt A (c + 1) = cnt A c + (if A (kc c) = 0 then 0 else 1) := rfl
    have next : ∀ z1, rRep z1 8 (sumL (pre kc (c + 1)) (fun k => intC k (A k))) → rRep z1 9 (sumL (pre kc (c + 1)) (fun k => intL k (A k))) → scl 2332800000 (cnt A (c + 1) * 31492800000000) (sumL (pre kc (c + 1)) (fun k => intC k (A k))) → scl 2332800000 (cnt A (c + 1) * 6298560000000) (sumL (pre kc (c + 1)) (fun k => intL k (A k))) → mSame z z1 → mLow z z1 → gM_isFull z1 = gM_isFull z →
        ∃ z', f_X7_integrate_187 (fun zM_ x1_ x2_ x3_ x5_ => f_X7_integrate_79 fu zM_ x1_ x2_ x3_ x5_) z1 x1 x2 (nI a) (nI c) = mIntEnd z' x1 x2 ∧ rRep z' 8 (sumL (pre kc 1150) (fun k => intC k (A k))) ∧ rRep z' 9 (sumL (pre kc 1150) (fun k => intL k (A k))) ∧ mSame z z' ∧ mLow z z' ∧ gM_isFull z' = gM_isFull z := by
      intro z1 r8 r9 t8 t9 ms ml fl
      obtain ⟨z', p1, p2, p3, p4, p5, p6⟩ := ih fu (c + 1) z1 (by omega) (by omega) r8 r9 t8 t9 (RA.low ml ha)
      refine ⟨z', ?_, p2, p3, ms.trans p4, ml.trans p5, p6.trans fl⟩
      unfold f_X7_integrate_187
      rw [nI_add1]
      exact p1
    rw [f_X7_integrate_79, if_neg (show ¬ (1150 : Int32) ≤ nI c from fun h => by have := (qI_le (n := 1150) (by omega) (by omega)).mp h; omega), row_eq, mod25 hc', div25 hc', e3]
    simp only [e1, e2, if_true, Option.bind_some]
    obtain ⟨z1, hz1⟩ : ∃ z1, z1 = uM_bottom (uM_top z (gM_up z (1150 * a + c))) (gM_down (uM_top z (gM_up z (1150 * a + c))) (1150 * a + c)) := ⟨_, rfl⟩
    rw [← hz1]
    have t1 : gM_top z1 = I64 (A (kc c)).num := by rw [hz1]; exact (RA c hc').1
    have t2 : gM_bottom z1 = I64 ((A (kc c)).den : Int) := by rw [hz1]; exact (RA c hc').2
    have R8' : rRep z1 8 (sumL (pre kc c) (fun k => intC k (A k))) := by rw [hz1]; exact R8
    have R9' : rRep z1 9 (sumL (pre kc c) (fun k => intL k (A k))) := by rw [hz1]; exact R9
    have ms0 : mSame z z1 := by rw [hz1]; exact ⟨rfl, rfl, rfl, rfl, rfl, rfl, rfl, rfl⟩
    have ml0 : mLow z z1 := by rw [hz1]; exact fun _ _ => ⟨rfl, rfl⟩
    have fl0 : gM_isFull z1 = gM_isFull z := by rw [hz1]; rfl
    clear hz1 R8 R9
    by_cases g0 : A (kc c) = 0
    · have : gM_top z1 = 0 := by rw [t1, g0]; rfl
      rw [if_neg (fun h => h this)]
      have y8 : intC (kc c) (A (kc c)) = fun _ => 0 := by unfold intC; rw [if_pos g0]
      have y9 : intL (kc c) (A (kc c)) = fun _ => 0 := by unfold intL; rw [if_pos g0]
      rw [y8, addF_0] at x8
      rw [y9, addF_0] at x9
      rw [if_pos g0, Nat.add_zero] at hcs
      exact next z1 (by rw [x8]; exact R8') (by rw [x9]; exact R9') (by rw [x8, hcs]; exact s8) (by rw [x9, hcs]; exact s9) ms0 ml0 fl0
    obtain ⟨sk, sv⟩ := hA _ g0
    obtain ⟨a1, a2, a3, a4, a5, a6, a7⟩ := smK_facts sk
    rw [if_neg g0] at hcs
    have hcb : cnt A c ≤ 39 := by have := cnt_mono A (show c + 1 ≤ 1150 by omega); omega
    rw [if_pos (by rw [t1]; exact fun e => g0 ((num0 _ (r64_of_abs sv.1 (by omega))).mp e)), (kindOf_eq ⟨c / 25, by omega⟩).1, (kindOf_eq ⟨c / 25, by omega⟩).2]
    simp only [Option.bind_some]
    obtain ⟨Mi, hMi, hb, hMi'⟩ : ∃ Mi, cnt A c * 31492800000000 ≤ Mi ∧ Mi ≤ 1228219200000000 ∧ Mi + 31492800000000 ≤ (cnt A c + 1) * 31492800000000 := ⟨cnt A c * 31492800000000, Nat.le_refl _, Nat.le_trans (Nat.mul_le_mul_right _ hcb) (by decide), Nat.le_of_eq (Nat.succ_mul _ _).symm⟩
    obtain ⟨Mj, hMj, hb2, hMj'⟩ : ∃ Mj, cnt A c * 6298560000000 ≤ Mj ∧ Mj ≤ 245643840000000 ∧ Mj + 6298560000000 ≤ (cnt A c + 1) * 6298560000000 := ⟨cnt A c * 6298560000000, Nat.le_refl _, Nat.le_trans (Nat.mul_le_mul_right _ hcb) (by decide), Nat.le_of_eq (Nat.succ_mul _ _).symm⟩
    replace s8 := scl_mono s8 hMi
    replace s9 := scl_mono s9 hMj
    clear hMi hMj
    rw [← hcs] at hMi' hMj'
    have fin : ∀ z2, rRep z2 8 (addF (sumL (pre kc c) (fun k => intC k (A k))) (intC (kc c) (A (kc c)))) → rRep z2 9 (addF (sumL (pre kc c) (fun k => intL k (A k))) (intL (kc c) (A (kc c)))) → scl 2332800000 (Mi + 31492800000000) (addF (sumL (pre kc c) (fun k => intC k (A k))) (intC (kc c) (A (kc c)))) → scl 2332800000 (Mj + 6298560000000) (addF (sumL (pre kc c) (fun k => intL k (A k))) (intL (kc c) (A (kc c)))) → mSame z1 z2 → mLow z1 z2 → gM_isFull z2 = gM_isFull z1 →
        ∃ z', f_X7_integrate_187 (fun zM_ x1_ x2_ x3_ x5_ => f_X7_integrate_79 fu zM_ x1_ x2_ x3_ x5_) z2 x1 x2 (nI a) (nI c) = mIntEnd z' x1 x2 ∧ rRep z' 8 (sumL (pre kc 1150) (fun k => intC k (A k))) ∧ rRep z' 9 (sumL (pre kc 1150) (fun k => intL k (A k))) ∧ mSame z z' ∧ mLow z z' ∧ gM_isFull z' = gM_isFull z := by
      intro z2 r8 r9 t8 t9 ms ml fl
      rw [← x8] at r8 t8
      rw [← x9] at r9 t9
      exact next z2 r8 r9 (scl_mono t8 hMi') (scl_mono t9 hMj') (ms0.trans ms) (ml0.trans ml) (fl.trans fl0)
    clear next hMi' hMj' hcs hcn hcb x8 x9 ih RA hA
    have d1 : kdF (c / 25) = kdK (kc c) := (kc_kd hc').symm
    have d2 : ctF (c / 25) = agK (kc c) := (kc_ag hc').symm
    have d3 : ((c % 25 : Nat) : Int) - 12 = pwK (kc c) := (kc_pw hc').symm
    have dg := kd_ge c hc'
    have tg : (10 : Int32) ≤ nI (c / 25) ↔ 10 ≤ c / 25 := qI_le (n := 10) (by omega) (by omega)
    simp only [d1, d2, d3]
    generalize hV : A (kc c) = V at *
    generalize hkd : kdK (kc c) = kd at *
    generalize hag : agK (kc c) = ag at *
    generalize hpw : pwK (kc c) = pw at *
    clear d1 d2 d3
    have l1 : -4 ≤ pw ∧ pw ≤ 4 := by omega
    have l2 : -3 ≤ ag ∧ ag ≤ 3 := by omega
    by_cases ck : 2 ≤ kd
    · rw [if_pos (tg.mpr (dg.mpr ck))]
      have hag0 : ag ≠ 0 := by
        by_cases c : kd = 2
        · exact a6 c
        · have := a7 (by unfold wav; omega); omega
      unfold f_X7_integrateOther
      by_cases cp : pw < 0
      · have plt : I32 pw < 0 := (I32_lt (b := 0) (by omega) (by omega) (by omega) (by omega)).mpr cp
        obtain ⟨dd, hdd⟩ : ∃ dd : Nat, pw = -((dd + 1 : Nat) : Int) := ⟨(-1 - pw).toNat, by omega⟩
        obtain ⟨-, -, -, u1, u2, u3, -⟩ := tR_facts (k := dd) (by omega)
        have ed : (-1 - pw).toNat = dd := by omega
        have y8 : intC (kc c) V = raiC ag dd kd V := by
          unfold intC; rw [if_neg g0, hkd, if_neg (by omega), hpw, if_neg (by omega), hag, ed]
        have y9 : intL (kc c) V = raiL ag dd kd V := by unfold intL; rw [if_neg g0, hkd, if_neg (by omega), hpw, if_neg (by omega), hag, ed]
        obtain ⟨z2, p1, p2, p3, p4, p5, p6, p7, p8⟩ := m_rai hag0 a3 pw cp (by omega) dd fuel z1 _ _ Mi Mj V.num V.den V kd (by omega) (by rw [fuel_eq]; omega) ck a1 g0 t1 t2 R8' R9' s8 (by omega) s9 (by omega) (qv_small sv u1 u2 u3)
        rw [← y8] at p2 p7
        rw [← y9] at p3 p8
        have p1' : f_X7_integrateOther_102 fuel z1 (I32 ag) (I32 pw) (nI kd) (I32 pw) = some z2 := by
          have := p1; rw [← hdd] at this; exact this
        have e0 : f_X7_integrateOther_6 fuel z1 (I32 ag) (I32 pw) (nI kd) (I32 pw) = some z2 := by
          rw [show fuel = 11999 + 1 from rfl, f_X7_integrateOther_6, if_pos plt]; exact p1'
        rw [e0, Option.bind_some]
        exact fin z2 p2 p3 (scl_mono p7 (by omega)) p8 p4 p5 p6
      · obtain ⟨p, hp⟩ : ∃ p : Nat, pw = p := ⟨pw.toNat, by omega⟩
        obtain ⟨-, -, -, u1, u2, u3⟩ := tW_facts (k := p) (by omega)
        have ed : pw.toNat = p := by omega
        have y8 : intC (kc c) V = lowC ag p kd V := by
          unfold intC; rw [if_neg g0, hkd, if_neg (by omega), hpw, if_pos (by omega), hag, ed]
        have y9 : intL (kc c) V = fun _ => 0 := by unfold intL; rw [if_neg g0, hkd, if_neg (by omega), hpw, if_pos (by omega)]
        obtain ⟨z2, p1, p2, p3, p4, p5, p6⟩ := m_low hag0 a3 p (by omega) p fuel z1 _ Mi V.num V.den V kd (by omega) (by rw [fuel_eq]; omega) ck a1 g0 t1 t2 R8' s8 (by omega) (qv_small sv u1 u2 u3)
        rw [← y8] at p2 p6
        rw [hp, I32_nI, p1, Option.bind_some]
        exact fin z2 p2 (by rw [y9, addF_0]; exact R9'.keep p4 (by omega)) (scl_mono p6 (by omega)) (by rw [y9, addF_0]; exact scl_mono s9 (by omega)) p3 (p4.low (by omega)) p5
    · rw [if_neg (fun h => ck (dg.mp (tg.mp h)))]
      have hag0 : 0 ≤ ag := by
        by_cases c : kd = 0
        · have := a4 c; omega
        · have := a5 (by omega); omega
      have y8 : intC (kc c) V = (if pw = -1 then dl 1 (ag + 1) 0 (V * Rat.divInt 1 (ag + 1)) else logC pw ag.toNat V) := by
        unfold intC; rw [if_neg g0, hkd, if_pos (by omega), hpw, hag]
      have y9 : intL (kc c) V = fun _ => 0 := by unfold intL; rw [if_neg g0, hkd, if_pos (by omega)]
      obtain ⟨z2, p1, p2, p3, p4, p5, p6⟩ := m_intLog sv g0 t1 t2 hag0 l2.2 l1.1 l1.2 R8' s8 (by omega)
      rw [← y8] at p2 p6
      rw [p1, Option.bind_some]
      exact fin z2 p2 (by rw [y9, addF_0]; exact R9'.keep p4 (by omega)) p6 (by rw [y9, addF_0]; exact scl_mono s9 (by omega)) p3 (p4.low (by omega)) p5
set_option maxHeartbeats 1000000 in
set_option maxRecDepth 100000 in
theorem scl_big {n : Nat} {F : Nat → Rat} (hn : n ≤ 40) (u : Nat) (hu : u ≤ 31492800000000) (h : scl 2332800000 (n * u) F) : okF F :=
  scl_okF (by omega) (scl_mono h (Nat.mul_le_mul hn hu)) (by decide) (by decide)
set_option maxHeartbeats 1000000 in
set_option maxRecDepth 100000 in
theorem integrate_both {zD : DeskS} {zM : MdS} (h : Sim zD zM) (a1 a2 a3 : Int32) : opR (f_X6_integrate zD a1 a2 a3) (f_X7_integrate zM a1 a2 a3) True True 2 := by
  obtain ⟨r1, e1, e2, e3, e4⟩ := isSlot6_eq a1
  obtain ⟨r2, f1, f2, f3, f4⟩ := isSlot6_eq a2
  obtain ⟨r3, g1, g2, g3, g4⟩ := isSlot6_eq a3
  have no : opR (some ((1 : Int32), (0 : Int32), zD)) (f_X7_integrate_25 zM a1 a2 a3) True True 2 :=
    ⟨1, 0, zD, 0, uM_refusal zM 1, rfl, rfl, h.refusal 1, Or.inr (Or.inl ⟨rfl, rfl, trivial⟩)⟩
  unfold f_X6_integrate f_X7_integrate
  rw [e1, e2, f1, f2, g1, g2]
  simp only [Option.bind_some]
  rcases e3 with rfl | rfl
  · rw [if_pos rfl, if_pos rfl]; exact no
  rw [if_neg (show ¬ (1 : Int32) = 0 by decide), if_neg (show ¬ (1 : Int32) = 0 by decide)]
  rcases f3 with rfl | rfl
  · rw [if_pos rfl, if_pos rfl]; exact no
  rw [if_neg (show ¬ (1 : Int32) = 0 by decide), if_neg (show ¬ (1 : Int32) = 0 by decide)]
  rcases g3 with rfl | rfl
  · rw [if_neg (by simp), if_pos rfl]; exact no
  rw [if_pos (show ¬ (1 : Int32) = 0 by decide), if_neg (show ¬ (1 : Int32) = 0 by decide)]
  obtain ⟨to, hto, rfl⟩ := e4.mp rfl
  obtain ⟨re, hre, rfl⟩ := f4.mp rfl
  obtain ⟨a, ha, rfl⟩ := g4.mp rfl
  obtain ⟨na, Ka, A, Ra, Ma, oa, hna, hva⟩ := h.1 a ha
  have i1 : inb (nI a) 8 = true := (inb_nI (by omega)).mpr ha
  have i2 : inb (nI to) 8 = true := (inb_nI (by omega)).mpr hto
  have i3 : inb (nI re) 8 = true := (inb_nI (by omega)).mpr hre
  have j1 : (nI a).toNatClampNeg = a := nI_nat (by omega)
  have j2 : (nI to).toNatClampNeg = to := nI_nat (by omega)
  have j3 : (nI re).toNatClampNeg = re := nI_nat (by omega)
  simp only [i1, i2, i3, j1, j2, j3, if_true]
  unfold f_X7_integrate_26
  rw [if_pos (show ¬ (1 : Int32) = 0 by decide)]
  obtain ⟨r, s1, s2, s3, s4⟩ := small_both ha Ra Ma hna hva
  rw [s1, s2]
  simp only [Option.bind_some]
  rcases s3 with rfl | rfl
  · rw [if_neg (by simp), if_neg (by simp)]
    exact ⟨2, 0, zD, 0, uM_refusal zM 2, rfl, rfl, h.refusal 2, Or.inr (Or.inr ⟨rfl, rfl, trivial⟩)⟩
  rw [if_pos (show ¬ (1 : Int32) = 0 by decide), if_pos (show ¬ (1 : Int32) = 0 by decide)]
  have hA : ∀ k, A k ≠ 0 → smK k ∧ smV (A k) := fun k hk => ⟨⟨(hva k hk).1, (s4 rfl k hk).2.2.1, (s4 rfl k hk).2.2.2⟩, (s4 rfl k hk).1, (s4 rfl k hk).2.1⟩
  have vA : ∀ k, A k ≠ 0 → vk k := fun k hk => (hva k hk).1
  have kA : ∀ i, i < na → smK (Ka i) ∧ smV (A (Ka i)) := fun i hi => hA _ (Ra.2.2.2.2.2.1 i hi).1
  obtain ⟨w0, c1, c2, c3⟩ := sRep_clear (gD_work zD) 200
  rw [c1, Option.bind_some]
  obtain ⟨l0, c4, c5, c6⟩ := sRep_clear (gD_left zD) 40
  have c4' : f_X4_clear 40 (gD_left (uD_work zD w0)) = some l0 := c4
  rw [c4', Option.bind_some]
  have z0 : ∀ u, scl 2332800000 (0 * u) (fun _ => 0) := fun u => scl_mono (scl_0 _) (by omega)
  obtain ⟨w1, l1, n1, nl1, K1, Kl1, d1, d2, d3, d4, d5, d6, d7, d8, d9⟩ := cl_int Ra hna kA na fuel 0 0 0 w0 l0 _ _ (by omega) (by rw [fuel_eq]; omega) (by omega) (by omega) c2 (z0 _) c5 (z0 _)
  have d1' : f_X0_putIntegral 200 40 40 (gD_slots (uD_left (uD_work zD w0) l0) a) (gD_work (uD_left (uD_work zD w0) l0)) (gD_left (uD_left (uD_work zD w0) l0)) = some (w1, l1) := d1
  rw [d1', Option.bind_some]
  unfold f_X7_integrate_51
  rw [refused0, Option.bind_some, if_pos rfl]
  obtain ⟨m0, k1, k2, k3, k4, k5, -, -⟩ := empty_eq (uM_isFull (uM_refusal zM 0) 0) 8 (by omega)
  have k1' : f_X7_empty (uM_isFull (uM_refusal zM 0) 0) 8 = some m0 := k1
  rw [k1', Option.bind_some]
  obtain ⟨m1, k6, k7, k8, k9, k10, -, -⟩ := empty_eq m0 9 (by omega)
  have k6' : f_X7_empty m0 9 = some m1 := k6
  rw [k6', Option.bind_some]
  have Ma0 : rRep (uM_isFull (uM_refusal zM 0) 0) a A := Ma
  have hcn : cnt A 1150 = na := cnt_size Ra vA
  obtain ⟨m2, q1, q2, q3, q4, q5, q6⟩ := m_int ha hA (by omega) (nI to) (nI re) 1150 fuel 0 m1 (by omega) (by rw [fuel_eq]; omega) (k2.keep k9 (by omega)) k7 (z0 _) (z0 _) ((Ma0.keep k4 (by omega)).keep k9 (by omega))
  have q1' : f_X7_integrate_79 fuel m1 (nI to) (nI re) (nI a) 0 = mIntEnd m2 (nI to) (nI re) := q1
  rw [q1']
  rw [sumL_cells Ra vA (fun k => intC k (A k)) (fun k hk => by unfold intC; rw [if_pos hk])] at d6 d7
  rw [sumL_cells Ra vA (fun k => intL k (A k)) (fun k hk => by unfold intL; rw [if_pos hk])] at d8 d9
  have o8 := scl_big hna _ (Nat.le_refl _) d7
  have o9 := scl_big hna _ (by omega) d9
  have v8 : supV (sumL (pre kc 1150) (fun k => intC k (A k))) := supV_sumL (fun k => (supV_int (fun hk => (hA k hk).1)).1)
  have v9 : supV (sumL (pre kc 1150) (fun k => intL k (A k))) := supV_sumL (fun k => (supV_int (fun hk => (hA k hk).1)).2)
  generalize sumL (pre kc 1150) (fun k => intC k (A k)) = F8 at *
  generalize sumL (pre kc 1150) (fun k => intL k (A k)) = F9 at *
  have full0 : gM_isFull m2 = 0 := by rw [q6, k10, k5]; rfl
  have hms : mSame (uM_refusal zM 0) m2 := (((show mSame (uM_refusal zM 0) (uM_isFull (uM_refusal zM 0) 0) from ⟨rfl, rfl, rfl, rfl, rfl, rfl, rfl, rfl⟩).trans k3).trans k8).trans q4
  have hml : mLow (uM_refusal zM 0) m2 := (((show mLow (uM_refusal zM 0) (uM_isFull (uM_refusal zM 0) 0) from fun _ _ => ⟨rfl, rfl⟩).trans (k4.low (by omega))).trans (k9.low (by omega))).trans q5
  have hsl : ∀ s, s < 8 → slR (gD_slots zD s) m2 s := by
    intro s hs
    obtain ⟨x1, x2, x3, x4, x5, x6⟩ := h.1 s hs
    have x5' : rRep (uM_refusal zM 0) s x3 := x5
    exact ⟨x1, x2, x3, x4, x5'.low hml hs, x6⟩
  have ow : gS_ov w1 = 0 := d4.trans c3
  have ol : gS_ov l1 = 0 := d5.trans c6
  obtain ⟨r8, p1, p2, p3, p4⟩ := fits_both (nS := 200) (row := 8) (by omega) (by omega) d6 d2 ow q2 o8 (fun k hk => (vk_wfk.mp (v8 k hk)).1) ⟨fun _ => v8, fun _ => full0⟩
  obtain ⟨r9, t1, t2, t3, t4⟩ := fits_both (nS := 40) (row := 9) (by omega) (by omega) d8 d3 ol q3 o9 (fun k hk => (vk_wfk.mp (v9 k hk)).1) ⟨fun _ => v9, fun _ => full0⟩
  unfold mIntEnd
  have p1' : f_X4_fits 200 (gD_work (uD_left (uD_work (uD_left (uD_work zD w0) l0) w1) l1)) = some r8 := p1
  have t1' : f_X4_fits 40 (gD_left (uD_left (uD_work (uD_left (uD_work zD w0) l0) w1) l1)) = some r9 := t1
  have p2' : f_X7_fits m2 8 = some r8 := p2
  have t2' : f_X7_fits m2 9 = some r9 := t2
  rw [p1', p2']
  simp only [Option.bind_some]
  have full : opR (some ((0 : Int32), (-4 : Int32), uD_left (uD_work (uD_left (uD_work zD w0) l0) w1) l1)) (some ((-4 : Int32), m2)) True True 2 :=
    ⟨0, -4, _, -4, m2, rfl, rfl, (h.refusal 0).keep ⟨rfl, rfl, rfl⟩ hms hsl, Or.inl ⟨rfl, hms.1, rfl⟩⟩
  rcases p3 with rfl | rfl
  · rw [if_pos rfl, if_pos rfl]; exact full
  rw [if_neg (show ¬ (1 : Int32) = 0 by decide), if_neg (show ¬ (1 : Int32) = 0 by decide), t1', t2']
  simp only [Option.bind_some]
  rcases t3 with rfl | rfl
  · rw [if_neg (by simp), if_neg (by simp)]; exact full
  rw [if_pos (show ¬ (1 : Int32) = 0 by decide), if_pos (show ¬ (1 : Int32) = 0 by decide)]
  obtain ⟨n40, hc8, hb8⟩ := p4 rfl
  obtain ⟨nl40, hc9, hb9⟩ := t4 rfl
  obtain ⟨y1, y2, y3, y4⟩ := become_eq 40 200 (by omega) (by omega) w1 (gD_slots zD to) n1 K1 F8 d6 n40 d2 ow
  have y2' : f_X4_become 40 200 (gD_work (uD_left (uD_work (uD_left (uD_work zD w0) l0) w1) l1)) (gD_slots (uD_left (uD_work (uD_left (uD_work zD w0) l0) w1) l1) to) = some y1 := y2
  rw [y2', Option.bind_some]
  obtain ⟨y5, y6, y7, y8⟩ := become_eq 40 40 (by omega) (by omega) l1 (gD_slots (uD_slot (uD_left (uD_work (uD_left (uD_work zD w0) l0) w1) l1) to y1) re) nl1 Kl1 F9 d8 nl40 d3 ol
  have y6' : f_X4_become 40 40 (gD_left (uD_slot (uD_left (uD_work (uD_left (uD_work zD w0) l0) w1) l1) to y1)) (gD_slots (uD_slot (uD_left (uD_work (uD_left (uD_work zD w0) l0) w1) l1) to y1) re) = some y5 := y6
  rw [y6', Option.bind_some]
  obtain ⟨z3, b1, b2, b3, b4, b5, -, -⟩ := copy_eq m2 to 8 (by omega) (by omega) (by omega) F8 q2
  have b1' : f_X7_copy m2 (nI to) 8 = some z3 := b1
  rw [b1', Option.bind_some]
  obtain ⟨z4, b6, b7, b8, b9, b10, -, -⟩ := copy_eq z3 re 9 (by omega) (by omega) (by omega) F9 (q3.keep b4 (by omega))
  have b6' : f_X7_copy z3 (nI re) 9 = some z4 := b6
  rw [b6', Option.bind_some]
  have hR9 : rRep z4 9 F9 := (q3.keep b4 (by omega)).keep b9 (by omega)
  have ht9 : f_X7_termsOf z4 9 = some (nI (cnt F9 1150)) := termsOf_eq z4 9 (by omega) F9 hR9 o9
  rw [ht9, hc9]
  unfold f_X4_size
  simp only [Option.bind_some]
  have hsz : gS_size (gD_left (uD_slot (uD_slot (uD_left (uD_work (uD_left (uD_work zD w0) l0) w1) l1) to y1) re y5)) = nI nl1 := d8.1
  rw [hsz]
  have hms' : mSame (uM_refusal zM 0) z4 := (hms.trans b3).trans b8
  refine ⟨0, nI nl1, _, nI nl1, z4, rfl, rfl, (h.refusal 0).keep ⟨rfl, rfl, rfl⟩ hms' (fun s hs => ?_), Or.inl ⟨rfl, hms'.1, rfl⟩⟩
  rw [slot_set, slot_set]
  by_cases x : s = re
  · subst x; rw [if_pos rfl]
    exact ⟨nl1, Kl1, F9, y7, b7, y8, nl40, hb9⟩
  · rw [if_neg x]
    by_cases y : s = to
    · subst y; rw [if_pos rfl]
      exact ⟨n1, K1, F8, y3, b2.keep b9 x, y4, n40, hb8⟩
    · rw [if_neg y]
      exact ((hsl s hs).keep b4 y).keep b9 x
