/-! sets as bits -/
abbrev tb (s v : Int) : Prop := am_and s (am_shl 1 v) ≠ 0
theorem tb_ne {s v : Int} : am_and s (am_shl 1 v) ≠ 0 ↔ tb s v := Iff.rfl
theorem tb_eq {s v : Int} : am_and s (am_shl 1 v) = 0 ↔ ¬ tb s v := by unfold tb; simp
def bv (s : Int) : BitVec 32 := BitVec.ofInt 32 s
theorem bv_and (a b : Int) : bv (am_and a b) = bv a &&& bv b := by
  unfold am_and bv
  rw [Int32.toInt, BitVec.ofInt_toInt, Int32.toBitVec_and]
  simp [Int32.toBitVec_ofInt]
theorem bv_or (a b : Int) : bv (am_or a b) = bv a ||| bv b := by
  unfold am_or bv
  rw [Int32.toInt, BitVec.ofInt_toInt, Int32.toBitVec_or]
  simp [Int32.toBitVec_ofInt]
theorem bv_xor (a b : Int) : bv (am_xor a b) = bv a ^^^ bv b := by
  unfold am_xor bv
  rw [Int32.toInt, BitVec.ofInt_toInt, Int32.toBitVec_xor]
  simp [Int32.toBitVec_ofInt]
theorem bv_shl1 (v : Nat) (hv : v < 32) : bv (am_shl 1 v) = 1#32 <<< v := by
  have : ∀ v : Fin 32, bv (am_shl 1 (v.val : Int)) = 1#32 <<< v.val := by decide +kernel
  exact this ⟨v, hv⟩
theorem and_toInt (a b : Int) : am_and a b = (bv a &&& bv b).toInt := by
  unfold am_and bv
  rw [Int32.toInt, Int32.toBitVec_and]
  simp [Int32.toBitVec_ofInt]
theorem or_toInt (a b : Int) : am_or a b = (bv a ||| bv b).toInt := by
  unfold am_or bv
  rw [Int32.toInt, Int32.toBitVec_or]
  simp [Int32.toBitVec_ofInt]
theorem tb_bv {s : Int} {v : Nat} (hv : v < 32) : tb s v ↔ (bv s).getLsbD v = true := by
  unfold tb
  rw [and_toInt, bv_shl1 v hv, ← BitVec.toInt_zero (w := 32), Ne, BitVec.toInt_inj]
  constructor
  · intro h
    cases q : (bv s).getLsbD v
    · exfalso
      apply h
      apply BitVec.eq_of_getLsbD_eq
      intro i hi
      simp only [BitVec.getLsbD_and, BitVec.getLsbD_shiftLeft, BitVec.getLsbD_one, BitVec.getLsbD_zero]
      by_cases e : i = v
      · subst e; simp [q]
      · by_cases l : i < v
        · simp [l]
        · have : i - v ≠ 0 := by omega
          simp [this]
    · rfl
  · intro h e
    have := congrArg (fun x => x.getLsbD v) e
    simp [BitVec.getLsbD_and, BitVec.getLsbD_shiftLeft, BitVec.getLsbD_one, hv] at this
    rw [BitVec.getLsbD_eq_getElem hv, this] at h
    cases h
theorem tb_nat {s v : Int} (h0 : 0 ≤ v) (h1 : v < 32) : tb s v ↔ (bv s).getLsbD v.toNat = true := by
  obtain ⟨n, rfl⟩ := Int.eq_ofNat_of_zero_le h0
  exact tb_bv (by omega)
theorem tb_and {a b v : Int} (h0 : 0 ≤ v) (h1 : v < 32) : tb (am_and a b) v ↔ tb a v ∧ tb b v := by
  rw [tb_nat h0 h1, tb_nat h0 h1, tb_nat h0 h1, bv_and]; simp
theorem tb_or {a b v : Int} (h0 : 0 ≤ v) (h1 : v < 32) : tb (am_or a b) v ↔ tb a v ∨ tb b v := by
  rw [tb_nat h0 h1, tb_nat h0 h1, tb_nat h0 h1, bv_or]; simp
theorem tb_not {a v : Int} (h0 : 0 ≤ v) (h1 : v < 32) : tb (am_xor a (-1)) v ↔ ¬ tb a v := by
  rw [tb_nat h0 h1, tb_nat h0 h1, bv_xor]
  have : bv (-1) = BitVec.allOnes 32 := by decide
  rw [this, BitVec.getLsbD_xor, BitVec.getLsbD_allOnes]
  simp [show v.toNat < 32 by omega]
theorem tb_shl {u v : Int} (h0 : 0 ≤ v) (h1 : v < 32) (u0 : 0 ≤ u) (u1 : u < 32) : tb (am_shl 1 u) v ↔ u = v := by
  have : ∀ u v : Fin 32, (am_and (am_shl 1 (u.val : Int)) (am_shl 1 (v.val : Int)) ≠ 0) ↔ u = v := by decide +kernel
  obtain ⟨n, rfl⟩ := Int.eq_ofNat_of_zero_le h0
  obtain ⟨m, rfl⟩ := Int.eq_ofNat_of_zero_le u0
  have := this ⟨m, by omega⟩ ⟨n, by omega⟩
  unfold tb
  rw [this]
  simp
  omega
theorem tb_zero {v : Int} : ¬ tb 0 v := by
  unfold tb am_and
  simp
theorem tb_all {n v : Int} (h0 : 0 ≤ v) (h1 : v < 32) (n0 : 0 ≤ n) (n1 : n ≤ 12) : tb (am_shl 1 n - 1) v ↔ v < n := by
  have : ∀ (n : Fin 13) (v : Fin 32), (am_and (am_shl 1 (n.val : Int) - 1) (am_shl 1 (v.val : Int)) ≠ 0) ↔ v.val < n.val := by decide +kernel
  obtain ⟨m, rfl⟩ := Int.eq_ofNat_of_zero_le h0
  obtain ⟨k, rfl⟩ := Int.eq_ofNat_of_zero_le n0
  have := this ⟨k, by omega⟩ ⟨m, by omega⟩
  unfold tb
  rw [this]
  simp
theorem shl_ok {n : Int} (n0 : 0 ≤ n) (n1 : n ≤ 12) : 1 ≤ am_shl 1 n ∧ am_shl 1 n ≤ 4096 := by
  have : ∀ (n : Fin 13), 1 ≤ am_shl 1 (n.val : Int) ∧ am_shl 1 (n.val : Int) ≤ 4096 := by decide +kernel
  obtain ⟨k, rfl⟩ := Int.eq_ofNat_of_zero_le n0
  exact this ⟨k, by omega⟩
