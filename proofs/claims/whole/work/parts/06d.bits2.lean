/-- how many of a set -/
def cn (s n : Int) : Int := su (fun v => if tb s v then 1 else 0) n
/-! more on bits -/
theorem bv_shr (x : Int) (n : Nat) (hn : n < 32) : bv (am_shr x n) = (bv x).sshiftRight n := by
  unfold am_shr bv
  rw [Int32.toInt, BitVec.ofInt_toInt, Int32.toBitVec_shiftRight, BitVec.sshiftRight_eq', Int32.toBitVec_ofInt]
  have : ∀ n : Fin 32, ((Int32.ofInt (n.val : Int) &&& 31).toBitVec.smod 32).toNat = n.val := by decide +kernel
  rw [this ⟨n, hn⟩]
theorem and1_iff (y : Int) : (am_and y 1 = 1 ↔ (bv y).getLsbD 0 = true) ∧ (am_and y 1 = 0 ↔ (bv y).getLsbD 0 = false) := by
  rw [and_toInt, show bv 1 = 1#32 from rfl, BitVec.and_one_eq_setWidth_ofBool_getLsbD]
  cases (bv y).getLsbD 0 <;> decide
theorem shr1 {x v : Int} (h0 : 0 ≤ v) (h1 : v < 32) : (am_and (am_shr x v) 1 = 1 ↔ tb x v) ∧ (am_and (am_shr x v) 1 = 0 ↔ ¬ tb x v) := by
  obtain ⟨n, rfl⟩ := Int.eq_ofNat_of_zero_le h0
  have e : (bv (am_shr x n)).getLsbD 0 = (bv x).getLsbD n := by
    rw [bv_shr x n (by omega), BitVec.getLsbD_sshiftRight]
    simp [show n < 32 by omega]
  have := and1_iff (am_shr x n)
  rw [e] at this
  rw [tb_bv (by omega)]
  refine ⟨this.1, this.2.trans ?_⟩
  simp
theorem bv_back {a : Int} (h : am_ok a) : (bv a).toInt = a := by
  unfold bv
  rw [BitVec.toInt_ofInt, Int.bmod_eq_of_le] <;> omega
theorem tb_ext {a b : Int} (ha : am_ok a) (hb : am_ok b) (h : ∀ v, 0 ≤ v → v < 32 → (tb a v ↔ tb b v)) : a = b := by
  have : bv a = bv b := by
    apply BitVec.eq_of_getLsbD_eq
    intro i hi
    have := h i (by omega) (by omega)
    rw [tb_bv hi, tb_bv hi] at this
    exact Bool.eq_iff_iff.mpr this
  rw [← bv_back ha, ← bv_back hb, this]
theorem bv_rng (b : BitVec 32) : am_ok b.toInt := by
  have h1 := BitVec.two_mul_toInt_lt (x := b)
  have h2 := BitVec.le_two_mul_toInt (x := b)
  constructor <;> omega
theorem ok_and (a b : Int) : am_ok (am_and a b) := by rw [and_toInt]; exact bv_rng _
theorem ok_or (a b : Int) : am_ok (am_or a b) := by rw [or_toInt]; exact bv_rng _
theorem and_z {a b : Int} : am_and a b = 0 ↔ bv a &&& bv b = 0#32 := by
  rw [and_toInt]
  constructor
  · intro e; apply BitVec.eq_of_toInt_eq; rw [e]; rfl
  · intro e; rw [e]; rfl
theorem and_zero {a b : Int} : am_and a b = 0 ↔ ∀ v, 0 ≤ v → v < 32 → ¬ (tb a v ∧ tb b v) := by
  rw [and_z]
  constructor
  · intro e v v0 v1 q
    rw [tb_nat v0 v1, tb_nat v0 v1] at q
    have := congrArg (fun z => z.getLsbD v.toNat) e
    simp only [BitVec.getLsbD_and, q.1, q.2, BitVec.getLsbD_zero] at this
    cases this
  · intro q
    apply BitVec.eq_of_getLsbD_eq
    intro i hi
    have := q i (by omega) (by omega)
    rw [tb_bv hi, tb_bv hi] at this
    rw [BitVec.getLsbD_and, BitVec.getLsbD_zero]
    cases e1 : (bv a).getLsbD i <;> cases e2 : (bv b).getLsbD i <;> simp_all
/-- a set of villages alone -/
def inn (x n : Int) : Prop := ∀ v, 0 ≤ v → v < 32 → tb x v → v < n
theorem hasAll_iff {x n : Int} (n0 : 0 ≤ n) (n1 : n ≤ 12) : am_and x (am_xor (am_shl 1 n - 1) (-1)) = 0 ↔ inn x n := by
  rw [and_zero]
  constructor
  · intro h v v0 v1 q
    have := h v v0 v1
    rw [tb_not v0 v1, tb_all v0 v1 n0 n1] at this
    by_cases k : v < n
    · exact k
    · exact absurd ⟨q, k⟩ this
  · intro h v v0 v1 q
    rw [tb_not v0 v1, tb_all v0 v1 n0 n1] at q
    exact q.2 (h v v0 v1 q.1)
theorem inn_rng {x n : Int} (n1 : n ≤ 12) (hx : am_ok x) (h : inn x n) : 0 ≤ x ∧ x < 4096 := by
  have m : ∀ i : Fin 32, (4095#32).getLsbD i.val = decide (i.val < 12) := by decide +kernel
  have e : bv x = bv x &&& 4095#32 := by
    apply BitVec.eq_of_getLsbD_eq
    intro i hi
    have q := h i (by omega) (by omega)
    rw [tb_bv hi] at q
    rw [BitVec.getLsbD_and, m ⟨i, hi⟩]
    cases e1 : (bv x).getLsbD i
    · rfl
    · have := q e1
      simp; omega
  have t : (bv x).toNat ≤ 4095 := by
    rw [e, BitVec.toNat_and]
    exact Nat.and_le_right
  have b := bv_back hx
  rw [BitVec.toInt_eq_toNat_cond] at b
  split at b <;> omega
theorem shr0_iff {x n : Int} (hx : am_ok x) (n0 : 0 ≤ n) (n1 : n ≤ 12) : (0 ≤ x ∧ am_shr x n = 0) ↔ inn x n := by
  obtain ⟨m, rfl⟩ := Int.eq_ofNat_of_zero_le n0
  have key : am_shr x m = 0 ↔ (bv x).sshiftRight m = 0#32 := by
    rw [← bv_shr x m (by omega)]
    constructor
    · intro e; rw [e]; rfl
    · intro e
      have : am_ok (am_shr x m) := by unfold am_shr; exact bv_rng _
      rw [← bv_back this, e]; rfl
  constructor
  · rintro ⟨-, h⟩ v v0 v1 q
    rw [tb_nat v0 v1] at q
    by_cases k : v < m
    · exact k
    · exfalso
      have := congrArg (fun z => z.getLsbD (v.toNat - m)) (key.mp h)
      simp only [BitVec.getLsbD_sshiftRight, BitVec.getLsbD_zero] at this
      rw [show m + (v.toNat - m) = v.toNat by omega, q] at this
      simp at this
      omega
  · intro h
    have r := inn_rng n1 hx h
    refine ⟨r.1, key.mpr ?_⟩
    apply BitVec.eq_of_getLsbD_eq
    intro i hi
    rw [BitVec.getLsbD_sshiftRight, BitVec.getLsbD_zero]
    have f : ∀ j : Nat, j < 32 → m ≤ j → (bv x).getLsbD j = false := by
      intro j hj hm
      cases e : (bv x).getLsbD j
      · rfl
      · have := h j (by omega) (by omega) ((tb_bv hj).mpr e)
        omega
    split
    · rename_i k; rw [f _ k (by omega)]; simp
    · have : (bv x).msb = false := by rw [BitVec.msb_eq_getLsbD_last]; exact f _ (by omega) (by omega)
      simp [this]
theorem inn_and {x y n : Int} (h : inn x n) : inn (am_and x y) n := fun v v0 v1 q => h v v0 v1 ((tb_and v0 v1).mp q).1
/-! how many bits -/
def bc_ok (x : Int) : Prop := (am_ok (x - am_and (am_ushr x 1) 1431655765) ∧ am_ok (am_and (x - am_and (am_ushr x 1) 1431655765) 858993459 + am_and (am_ushr (x - am_and (am_ushr x 1) 1431655765) 2) 858993459) ∧ am_ok (am_and (x - am_and (am_ushr x 1) 1431655765) 858993459 + am_and (am_ushr (x - am_and (am_ushr x 1) 1431655765) 2) 858993459 + am_ushr (am_and (x - am_and (am_ushr x 1) 1431655765) 858993459 + am_and (am_ushr (x - am_and (am_ushr x 1) 1431655765) 2) 858993459) 4) ∧ am_ok (am_and (am_and (x - am_and (am_ushr x 1) 1431655765) 858993459 + am_and (am_ushr (x - am_and (am_ushr x 1) 1431655765) 2) 858993459 + am_ushr (am_and (x - am_and (am_ushr x 1) 1431655765) 858993459 + am_and (am_ushr (x - am_and (am_ushr x 1) 1431655765) 2) 858993459) 4) 252645135 + am_ushr (am_and (am_and (x - am_and (am_ushr x 1) 1431655765) 858993459 + am_and (am_ushr (x - am_and (am_ushr x 1) 1431655765) 2) 858993459 + am_ushr (am_and (x - am_and (am_ushr x 1) 1431655765) 858993459 + am_and (am_ushr (x - am_and (am_ushr x 1) 1431655765) 2) 858993459) 4) 252645135) 8) ∧ am_ok (am_and (am_and (x - am_and (am_ushr x 1) 1431655765) 858993459 + am_and (am_ushr (x - am_and (am_ushr x 1) 1431655765) 2) 858993459 + am_ushr (am_and (x - am_and (am_ushr x 1) 1431655765) 858993459 + am_and (am_ushr (x - am_and (am_ushr x 1) 1431655765) 2) 858993459) 4) 252645135 + am_ushr (am_and (am_and (x - am_and (am_ushr x 1) 1431655765) 858993459 + am_and (am_ushr (x - am_and (am_ushr x 1) 1431655765) 2) 858993459 + am_ushr (am_and (x - am_and (am_ushr x 1) 1431655765) 858993459 + am_and (am_ushr (x - am_and (am_ushr x 1) 1431655765) 2) 858993459) 4) 252645135) 8 + am_ushr (am_and (am_and (x - am_and (am_ushr x 1) 1431655765) 858993459 + am_and (am_ushr (x - am_and (am_ushr x 1) 1431655765) 2) 858993459 + am_ushr (am_and (x - am_and (am_ushr x 1) 1431655765) 858993459 + am_and (am_ushr (x - am_and (am_ushr x 1) 1431655765) 2) 858993459) 4) 252645135 + am_ushr (am_and (am_and (x - am_and (am_ushr x 1) 1431655765) 858993459 + am_and (am_ushr (x - am_and (am_ushr x 1) 1431655765) 2) 858993459 + am_ushr (am_and (x - am_and (am_ushr x 1) 1431655765) 858993459 + am_and (am_ushr (x - am_and (am_ushr x 1) 1431655765) 2) 858993459) 4) 252645135) 8) 16))
def bc_v (x : Int) : Int := (am_and (am_and (am_and (x - am_and (am_ushr x 1) 1431655765) 858993459 + am_and (am_ushr (x - am_and (am_ushr x 1) 1431655765) 2) 858993459 + am_ushr (am_and (x - am_and (am_ushr x 1) 1431655765) 858993459 + am_and (am_ushr (x - am_and (am_ushr x 1) 1431655765) 2) 858993459) 4) 252645135 + am_ushr (am_and (am_and (x - am_and (am_ushr x 1) 1431655765) 858993459 + am_and (am_ushr (x - am_and (am_ushr x 1) 1431655765) 2) 858993459 + am_ushr (am_and (x - am_and (am_ushr x 1) 1431655765) 858993459 + am_and (am_ushr (x - am_and (am_ushr x 1) 1431655765) 2) 858993459) 4) 252645135) 8 + am_ushr (am_and (am_and (x - am_and (am_ushr x 1) 1431655765) 858993459 + am_and (am_ushr (x - am_and (am_ushr x 1) 1431655765) 2) 858993459 + am_ushr (am_and (x - am_and (am_ushr x 1) 1431655765) 858993459 + am_and (am_ushr (x - am_and (am_ushr x 1) 1431655765) 2) 858993459) 4) 252645135 + am_ushr (am_and (am_and (x - am_and (am_ushr x 1) 1431655765) 858993459 + am_and (am_ushr (x - am_and (am_ushr x 1) 1431655765) 2) 858993459 + am_ushr (am_and (x - am_and (am_ushr x 1) 1431655765) 858993459 + am_and (am_ushr (x - am_and (am_ushr x 1) 1431655765) 2) 858993459) 4) 252645135) 8) 16) 63)
theorem bc_all : ∀ a b : Fin 64, bc_ok ((64 * a.val + b.val : Nat) : Int) ∧ bc_v ((64 * a.val + b.val : Nat) : Int) = cn ((64 * a.val + b.val : Nat) : Int) 12 := by
  unfold bc_ok bc_v cn am_ok
  decide +kernel
theorem bc_n (n : Nat) (h : n < 4096) : bc_ok (n : Int) ∧ bc_v (n : Int) = cn (n : Int) 12 := by
  have := bc_all ⟨n / 64, by omega⟩ ⟨n % 64, by omega⟩
  rw [show 64 * (n / 64) + n % 64 = n by omega] at this
  exact this
theorem co_all : ∀ a b : Fin 64, 64 * a.val + b.val ≠ 0 → cn (am_and ((64 * a.val + b.val : Nat) : Int) (((64 * a.val + b.val : Nat) : Int) - 1)) 12 = cn ((64 * a.val + b.val : Nat) : Int) 12 - 1 ∧ 0 ≤ am_and ((64 * a.val + b.val : Nat) : Int) (((64 * a.val + b.val : Nat) : Int) - 1) ∧ am_and ((64 * a.val + b.val : Nat) : Int) (((64 * a.val + b.val : Nat) : Int) - 1) < ((64 * a.val + b.val : Nat) : Int) := by
  unfold cn
  decide +kernel
theorem co_n (n : Nat) (h : n < 4096) (h0 : n ≠ 0) : cn (am_and (n : Int) ((n : Int) - 1)) 12 = cn (n : Int) 12 - 1 ∧ 0 ≤ am_and (n : Int) ((n : Int) - 1) ∧ am_and (n : Int) ((n : Int) - 1) < (n : Int) := by
  have := co_all ⟨n / 64, by omega⟩ ⟨n % 64, by omega⟩
  rw [show 64 * (n / 64) + n % 64 = n by omega] at this
  exact this h0
theorem cn_bd (x : Int) : 0 ≤ cn x 12 ∧ cn x 12 ≤ 12 := su_bd (B := 1) (n := 12) (by omega) (by omega) (fun x _ _ => by split <;> omega)
