/-! bytes of a long -/
theorem hb_and (y : Int64) : y &&& 255 = Int64.ofNat (y.toBitVec.toNat % 256) := by
  refine Int64.toBitVec_inj.mp ?_
  refine BitVec.eq_of_toNat_eq ?_
  rw [Int64.toBitVec_and, BitVec.toNat_and]
  have e : (255 : Int64).toBitVec.toNat = 2 ^ 8 - 1 := rfl
  rw [e, Nat.and_two_pow_sub_one_eq_mod]
  show y.toBitVec.toNat % 2 ^ 8 = (BitVec.ofNat 64 (y.toBitVec.toNat % 256)).toNat
  rw [BitVec.toNat_ofNat, Nat.mod_eq_of_lt (b := 2 ^ 64)]
  exact Nat.lt_trans (Nat.mod_lt _ (by decide)) (by decide)
theorem hb_32 {n : Nat} (h : n < 256) : (Int64.ofNat n).toInt32 = nI n := by
  refine Int32.toInt_inj.mp ?_
  rw [Int64.toInt_toInt32, Int64.toInt_ofNat_of_lt (by omega), nI_toInt (by omega)]
  refine Int.bmod_eq_of_le ?_ ?_ <;> omega
def hf_by (x : Int64) (k : Nat) : Nat := (hk_shrL x (8 * nI k)).toBitVec.toNat % 256
theorem hf_by_lt (x : Int64) (k : Nat) : hf_by x k < 256 := Nat.mod_lt _ (by decide)
theorem hf_by_m (x : Int64) (k : Nat) : (hk_shrL x (8 * nI k) &&& 255).toInt32 = nI (hf_by x k) := by
  rw [hb_and, hb_32 (Nat.mod_lt _ (by decide))]; rfl
/-- a byte as the class holds it -/
def hf_sb (b : Nat) : Int32 := (nI b).toInt8.toInt32
theorem hb_8 (y : Int64) : (nI (y.toBitVec.toNat % 256)).toInt8 = y.toInt8 := by
  refine Int8.toBitVec_inj.mp ?_
  refine BitVec.eq_of_toNat_eq ?_
  show (BitVec.signExtend 8 (nI (y.toBitVec.toNat % 256)).toBitVec).toNat = (BitVec.signExtend 8 y.toBitVec).toNat
  rw [BitVec.signExtend_eq_setWidth_of_le _ (by decide), BitVec.signExtend_eq_setWidth_of_le _ (by decide), BitVec.toNat_setWidth, BitVec.toNat_setWidth]
  show (BitVec.ofNat 32 (y.toBitVec.toNat % 256)).toNat % 2 ^ 8 = _
  rw [BitVec.toNat_ofNat, Nat.mod_eq_of_lt (b := 2 ^ 32), Nat.mod_mod]
  exact Nat.lt_trans (Nat.mod_lt _ (by decide)) (by decide)
theorem hb_sh (v : BitVec 64) (s : Nat) (h : s ≤ 56) : (v >>> s).setWidth 8 = (v.sshiftRight s).setWidth 8 := by
  refine BitVec.eq_of_getLsbD_eq (fun i hi => ?_)
  rw [BitVec.getLsbD_setWidth, BitVec.getLsbD_setWidth, BitVec.getLsbD_ushiftRight, BitVec.getLsbD_sshiftRight]
  have h1 : ¬ 64 ≤ i := by omega
  have h2 : s + i < 64 := by omega
  simp [h1, h2]
theorem hb_us : ∀ k, k < 8 → ∀ x : Int64, (hk_ushL x (8 * nI k)).toBitVec = x.toBitVec >>> (8 * k) ∧ (hk_shrL x (8 * nI k)).toBitVec = x.toBitVec.sshiftRight (8 * k) := by
  intro k hk x
  have : k = 0 ∨ k = 1 ∨ k = 2 ∨ k = 3 ∨ k = 4 ∨ k = 5 ∨ k = 6 ∨ k = 7 := by omega
  rcases this with e | e | e | e | e | e | e | e <;> subst e <;> exact ⟨rfl, rfl⟩
theorem hf_by_c (x : Int64) {k : Nat} (hk : k < 8) : (hk_ushL x (8 * nI k)).toInt32.toInt8.toInt32 = hf_sb (hf_by x k) := by
  unfold hf_sb hf_by
  rw [hb_8, Int64.toInt8_toInt32]
  congr 1
  refine Int8.toBitVec_inj.mp ?_
  show BitVec.signExtend 8 (hk_ushL x (8 * nI k)).toBitVec = BitVec.signExtend 8 (hk_shrL x (8 * nI k)).toBitVec
  rw [BitVec.signExtend_eq_setWidth_of_le _ (by decide), BitVec.signExtend_eq_setWidth_of_le _ (by decide), (hb_us k hk x).1, (hb_us k hk x).2]
  exact hb_sh _ _ (by omega)
/-! how a byte stands against the others -/
theorem hb_c : ∀ b, b < 256 → (hf_sb b = 32 ↔ b = 32) ∧ (hf_sb b = 59 ↔ b = 59) ∧ ((97 ≤ hf_sb b ∧ hf_sb b ≤ 122) ↔ (97 ≤ b ∧ b ≤ 122)) ∧ ((48 ≤ hf_sb b ∧ hf_sb b ≤ 57) ↔ (48 ≤ b ∧ b ≤ 57)) ∧ (b < 128 → hf_sb b = nI b) ∧ hf_sb b.toUInt8.toNat = hf_sb b ∧ (128 ≤ b → hf_sb b < 0) := by decide +kernel
