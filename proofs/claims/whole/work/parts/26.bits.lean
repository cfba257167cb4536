/-! Integer.bitCount of sixteen bits -/
def pcR (x : Nat) : Nat → Nat
  | 0 => 0
  | k + 1 => pcR x k + (x / 2 ^ k % 2)
def bn1 (x : Nat) : Nat := x - (x / 2 &&& 1431655765)
def bn2 (x : Nat) : Nat := (x &&& 858993459) + (x / 4 &&& 858993459)
def bn3 (x : Nat) : Nat := (x + x / 16) &&& 252645135
def bn4 (x : Nat) : Nat := x + x / 256
def bn5 (x : Nat) : Nat := x + x / 65536
def bnR (x : Nat) : Nat := bn5 (bn4 (bn3 (bn2 (bn1 x)))) &&& 63
theorem ushN {x : Nat} (hx : x < 2 ^ 31) (k : Nat) (hk : (((nI k).toUInt32 &&& Int32.toUInt32 31).toBitVec % 32).toNat = k) : ((nI x).toUInt32 >>> ((nI k).toUInt32 &&& Int32.toUInt32 31)).toInt32 = nI (x / 2 ^ k) := pk_ushrN (by omega) (nI k) k hk
theorem bc1_n {x : Nat} (hx : x < 2 ^ 31) : bc1 (nI x) = nI (bn1 x) := by
  unfold bc1 bn1
  rw [ushN hx 1 (by decide), nI_and (by omega) (by decide), pk_sub (Nat.le_trans Nat.and_le_left (by omega))]
theorem bc2_n {x : Nat} (hx : x < 2 ^ 29) : bc2 (nI x) = nI (bn2 x) := by
  unfold bc2 bn2
  rw [ushN (by omega) 2 (by decide), nI_and (by omega) (by decide), nI_and (by omega) (by decide), nI_add]
theorem bc3_n {x : Nat} (hx : x < 2 ^ 29) : bc3 (nI x) = nI (bn3 x) := by
  unfold bc3 bn3
  rw [ushN (by omega) 4 (by decide), nI_add, nI_and (by omega) (by decide)]
theorem bc4_n {x : Nat} (hx : x < 2 ^ 29) : bc4 (nI x) = nI (bn4 x) := by
  unfold bc4 bn4
  rw [ushN (by omega) 8 (by decide), nI_add]
theorem bc5_n {x : Nat} (hx : x < 2 ^ 30) : bc5 (nI x) = nI (bn5 x) := by
  unfold bc5 bn5
  rw [ushN (by omega) 16 (by decide), nI_add]
theorem bcR_n {x : Nat} (hx : x < 65536) : bcR (nI x) = nI (bnR x) := by
  have h1 : bn1 x ≤ x := Nat.sub_le _ _
  have h2 : bn2 (bn1 x) ≤ bn1 x + bn1 x / 4 := Nat.add_le_add Nat.and_le_left Nat.and_le_left
  have h3 : bn3 (bn2 (bn1 x)) ≤ bn2 (bn1 x) + bn2 (bn1 x) / 16 := Nat.and_le_left
  have h4 : bn4 (bn3 (bn2 (bn1 x))) = bn3 (bn2 (bn1 x)) + bn3 (bn2 (bn1 x)) / 256 := rfl
  have h5 : bn5 (bn4 (bn3 (bn2 (bn1 x)))) = bn4 (bn3 (bn2 (bn1 x))) + bn4 (bn3 (bn2 (bn1 x))) / 65536 := rfl
  unfold bcR bnR
  rw [bc1_n (by omega), bc2_n (by omega), bc3_n (by omega), bc4_n (by omega), bc5_n (by omega), nI_and (by omega) (by decide)]
theorem and_split (x m : Nat) : x &&& m = (x % 256 &&& m % 256) + 256 * (x / 256 &&& m / 256) := by
  have h1 : (x &&& m) % 2 ^ 8 = (x % 2 ^ 8) &&& (m % 2 ^ 8) := Nat.and_mod_two_pow
  have h2 : (x &&& m) / 2 ^ 8 = (x / 2 ^ 8) &&& (m / 2 ^ 8) := Nat.and_div_two_pow
  have e : (2 : Nat) ^ 8 = 256 := by decide
  rw [e] at h1 h2
  rw [← h1, ← h2]
  omega
theorem f1a : ∀ a, a < 256 → ∀ c, c < 2 → (a / 2 + 128 * c) &&& 85 = a / 2 &&& 85 := by decide +kernel
theorem f1b : ∀ a, a < 256 → a / 2 &&& 5592405 = a / 2 &&& 85 := by decide +kernel
theorem f1c : ∀ a, a < 256 → bn1 a = a - (a / 2 &&& 85) ∧ bn1 a < 256 := by decide +kernel
theorem f2a : ∀ a, a < 256 → ∀ c, c < 4 → (a / 4 + 64 * c) &&& 51 = a / 4 &&& 51 := by decide +kernel
theorem f2b : ∀ a, a < 256 → a / 4 &&& 3355443 = a / 4 &&& 51 ∧ a &&& 3355443 = a &&& 51 := by decide +kernel
theorem f2c : ∀ a, a < 256 → bn2 a = (a &&& 51) + (a / 4 &&& 51) ∧ bn2 a < 256 := by decide +kernel
theorem f3 : ∀ a, a < 256 → bn2 (bn1 a) % 16 ≤ 4 ∧ bn2 (bn1 a) / 16 ≤ 4 ∧ pcR a 8 = bn2 (bn1 a) % 16 + bn2 (bn1 a) / 16 := by decide +kernel
theorem f4 : ∀ a, a ≤ 4 → ∀ b, b ≤ 4 → ∀ c, c ≤ 4 → ∀ d, d ≤ 4 → bn5 (bn4 (bn3 ((a + 16 * b) + 256 * (c + 16 * d)))) &&& 63 = a + b + (c + d) := by decide +kernel
theorem bn1_s {a b : Nat} (ha : a < 256) (hb : b < 256) : bn1 (a + 256 * b) = bn1 a + 256 * bn1 b := by
  have h := and_split ((a + 256 * b) / 2) 1431655765
  rw [show (a + 256 * b) / 2 % 256 = a / 2 + 128 * (b % 2) by omega, show (a + 256 * b) / 2 / 256 = b / 2 by omega, show 1431655765 % 256 = 85 by decide, show 1431655765 / 256 = 5592405 by decide, f1a a ha _ (Nat.mod_lt _ (by decide)), f1b b hb] at h
  have l1 : a / 2 &&& 85 ≤ a / 2 := Nat.and_le_left
  have l2 : b / 2 &&& 85 ≤ b / 2 := Nat.and_le_left
  rw [(f1c a ha).1, (f1c b hb).1]
  unfold bn1
  rw [h]
  omega
theorem bn2_s {a b : Nat} (ha : a < 256) (hb : b < 256) : bn2 (a + 256 * b) = bn2 a + 256 * bn2 b := by
  have h := and_split ((a + 256 * b) / 4) 858993459
  have h0 := and_split (a + 256 * b) 858993459
  rw [show (a + 256 * b) / 4 % 256 = a / 4 + 64 * (b % 4) by omega, show (a + 256 * b) / 4 / 256 = b / 4 by omega, show 858993459 % 256 = 51 by decide, show 858993459 / 256 = 3355443 by decide, f2a a ha _ (Nat.mod_lt _ (by decide)), (f2b b hb).1] at h
  rw [show (a + 256 * b) % 256 = a by omega, show (a + 256 * b) / 256 = b by omega, show 858993459 % 256 = 51 by decide, show 858993459 / 256 = 3355443 by decide, (f2b b hb).2] at h0
  rw [(f2c a ha).1, (f2c b hb).1]
  unfold bn2
  rw [h, h0]
  omega
theorem pc_split (x : Nat) : pcR x 16 = pcR (x % 256) 8 + pcR (x / 256) 8 := by
  simp only [pcR]
  simp only [Nat.reducePow, Nat.div_one]
  omega
theorem bc_pc {x : Nat} (hx : x < 65536) : bcR (nI x) = nI (pcR x 16) := by
  rw [bcR_n hx, pc_split]
  have ha : x % 256 < 256 := Nat.mod_lt _ (by decide)
  have hb : x / 256 < 256 := by omega
  unfold bnR
  rw [show x = x % 256 + 256 * (x / 256) by omega, bn1_s ha hb, bn2_s (f1c _ ha).2 (f1c _ hb).2]
  obtain ⟨p1, p2, p3⟩ := f3 _ ha
  obtain ⟨q1, q2, q3⟩ := f3 _ hb
  have h := f4 _ p1 _ p2 _ q1 _ q2
  rw [show bn2 (bn1 (x % 256)) % 16 + 16 * (bn2 (bn1 (x % 256)) / 16) = bn2 (bn1 (x % 256)) by omega, show bn2 (bn1 (x / 256)) % 16 + 16 * (bn2 (bn1 (x / 256)) / 16) = bn2 (bn1 (x / 256)) by omega] at h
  rw [h, show (x % 256 + 256 * (x / 256)) % 256 = x % 256 by omega, show (x % 256 + 256 * (x / 256)) / 256 = x / 256 by omega, p3, q3]
theorem pc_bsm (q : Nat → Prop) (k : Nat) : ∀ j, j ≤ k → pcR (bsm q k) j = cntP q j := by
  intro j
  induction j with
  | zero => intro _; rfl
  | succ j ih =>
    intro hj
    show pcR (bsm q k) j + (bsm q k / 2 ^ j % 2) = cntP q j + cif (q j) 1 0
    rw [ih (by omega)]
    have h := bsm_tb q k j
    have t := tb_iff (bsm q k) j
    by_cases hq : q j
    · rw [cif_t hq, t.mpr (h.mpr ⟨by omega, hq⟩)]
    · rw [cif_f hq]
      have : ¬ bsm q k / 2 ^ j % 2 = 1 := fun e => hq (h.mp (t.mp e)).2
      have := Nat.mod_lt (bsm q k / 2 ^ j) (by decide : 2 > 0)
      omega
theorem bc_bsm (q : Nat → Prop) : bcR (nI (bsm q 16)) = nI (cntP q 16) := by
  rw [bc_pc (bsm_lt q 16), pc_bsm q 16 16 (Nat.le_refl _)]
