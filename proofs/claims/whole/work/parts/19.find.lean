/-! bytes of a long; forms that are like a row -/
def byt (y : Int64) (i : Int) : Int := ((am_lushr y (8 * i)) &&& (Int64.ofInt 255)).toInt32.toInt
theorem b255 (j : Nat) : (255#64).getLsbD j = decide (j < 8) := by
  by_cases h : j < 64
  · have : ∀ j : Fin 64, (255#64).getLsbD j.val = decide (j.val < 8) := by decide +kernel
    exact this ⟨j, h⟩
  · rw [BitVec.getLsbD_of_ge _ _ (by omega)]; simp; omega
theorem by_l (z : Int64) : 0 ≤ (z &&& Int64.ofInt 255).toInt32.toInt ∧ (z &&& Int64.ofInt 255).toInt32.toInt ≤ 255 ∧ (z &&& Int64.ofInt 255).toInt32.toInt = ((z.toBitVec &&& 255#64).toNat : Int) ∧ (z &&& Int64.ofInt 255).toInt = ((z.toBitVec &&& 255#64).toNat : Int) := by
  have e : (z &&& Int64.ofInt 255).toBitVec = z.toBitVec &&& 255#64 := by rw [Int64.toBitVec_and]; rfl
  have le : (z.toBitVec &&& 255#64).toNat ≤ 255 := by rw [BitVec.toNat_and]; exact Nat.and_le_right
  have t : (z &&& Int64.ofInt 255).toInt = ((z.toBitVec &&& 255#64).toNat : Int) := by
    show (z &&& Int64.ofInt 255).toBitVec.toInt = _
    rw [e, BitVec.toInt_eq_toNat_of_lt (by omega)]
  have t32 : (z &&& Int64.ofInt 255).toInt32.toInt = ((z.toBitVec &&& 255#64).toNat : Int) := by
    rw [Int64.toInt_toInt32, t]
    exact Int.bmod_eq_of_le (by omega) (by omega)
  exact ⟨by omega, by omega, t32, t⟩
theorem byt_bd (y : Int64) (i : Int) : 0 ≤ byt y i ∧ byt y i ≤ 255 := by
  have := by_l (am_lushr y (8 * i))
  exact ⟨this.1, this.2.1⟩
theorem shl_eq {y : Int64} {i : Int} (i0 : 0 ≤ i) (i1 : i < 8) : (am_lshr y (8 * i)).toBitVec &&& 255#64 = (am_lushr y (8 * i)).toBitVec &&& 255#64 := by
  have c1 : ∀ i : Fin 8, (((Int32.ofInt (8 * (i.val : Int))).toInt64 &&& 63).toBitVec.smod 64).toNat = 8 * i.val := by decide +kernel
  have c2 : ∀ i : Fin 8, ((Int32.ofInt (8 * (i.val : Int))).toInt64.toUInt64 &&& Int64.toUInt64 63).toBitVec.toNat % 64 = 8 * i.val := by decide +kernel
  obtain ⟨n, rfl⟩ := Int.eq_ofNat_of_zero_le i0
  apply BitVec.eq_of_getLsbD_eq
  intro j hj
  rw [BitVec.getLsbD_and, BitVec.getLsbD_and, b255]
  by_cases q : j < 8
  · have e1 : (am_lshr y (8 * (n : Int))).toBitVec.getLsbD j = y.toBitVec.getLsbD (8 * n + j) := by
      unfold am_lshr
      rw [Int64.toBitVec_shiftRight, BitVec.sshiftRight_eq', c1 ⟨n, by omega⟩, BitVec.getLsbD_sshiftRight]
      have h1 : ¬ 64 ≤ j := by omega
      have h2 : 8 * n + j < 64 := by omega
      simp [h1, h2]
    have e2 : (am_lushr y (8 * (n : Int))).toBitVec.getLsbD j = y.toBitVec.getLsbD (8 * n + j) := by
      unfold am_lushr
      show (y.toUInt64 >>> ((Int32.ofInt (8 * (n : Int))).toInt64.toUInt64 &&& Int64.toUInt64 63)).toBitVec.getLsbD j = _
      rw [UInt64.toBitVec_shiftRight, BitVec.ushiftRight_eq', BitVec.getLsbD_ushiftRight]
      have := c2 ⟨n, by omega⟩
      rw [BitVec.toNat_umod]
      rw [show BitVec.toNat (64 : BitVec 64) = 64 from rfl, this]
      rfl
    rw [e1, e2]
  · simp [q]
theorem byt_m {y : Int64} {i : Int} (i0 : 0 ≤ i) (i1 : i < 8) : ((am_lshr y (8 * i)) &&& (Int64.ofInt 255)).toInt32.toInt = byt y i := by
  unfold byt
  rw [(by_l _).2.2.1, (by_l _).2.2.1, shl_eq i0 i1]
theorem byt_lc {y : Int64} {i : Int} (i0 : 0 ≤ i) (i1 : i < 8) : am_lc ((am_lshr y (8 * i)) &&& (Int64.ofInt 255)) (Int64.ofInt 26) < 0 ↔ byt y i < 26 := by
  have a := (by_l (am_lshr y (8 * i))).2.2
  rw [byt_m i0 i1] at a
  have e : ((am_lshr y (8 * i)) &&& (Int64.ofInt 255)).toInt = byt y i := by omega
  unfold am_lc
  have l : (Int64.ofInt 26 < (am_lshr y (8 * i)) &&& (Int64.ofInt 255)) ↔ 26 < byt y i := by
    rw [Int64.lt_iff_toInt_lt, e]; rfl
  have q : ((am_lshr y (8 * i)) &&& (Int64.ofInt 255) = Int64.ofInt 26) ↔ byt y i = 26 := by
    rw [← Int64.toInt_inj, e]; rfl
  by_cases k : 26 < byt y i
  · rw [if_pos (l.mpr k)]; omega
  · rw [if_neg (fun z => k (l.mp z))]
    by_cases k2 : byt y i = 26
    · rw [if_pos (q.mpr k2)]; omega
    · rw [if_neg (fun z => k2 (q.mp z))]; omega
/-- form f is the row x of n sounds -/
def lk (N : Int → Int) (f n : Int) (x : Int → Int) : Prop := N (250 + 9 * f) = n ∧ ∀ i, 0 ≤ i → i < n → N (251 + 9 * f + i) = x i
theorem lk_cg {N : Int → Int} {f n : Int} {x y : Int → Int} (e : ∀ i, 0 ≤ i → i < n → x i = y i) (H : lk N f n x) : lk N f n y := ⟨H.1, fun i i0 i1 => (H.2 i i0 i1).trans (e i i0 i1)⟩
def fnd (N : Int → Int) (n : Int) (x : Int → Int) (r : Int) : Prop := (r = -1 ∧ ∀ f, 0 ≤ f → f < N 2 → ¬ lk N f n x) ∨ (0 ≤ r ∧ r < N 2 ∧ lk N r n x ∧ ∀ g, 0 ≤ g → g < r → ¬ lk N g n x)
theorem fnd_one {N : Int → Int} {n : Int} {x : Int → Int} {r r' : Int} (A : fnd N n x r) (B : fnd N n x r') : r = r' := by
  rcases A with ⟨a1, a2⟩ | ⟨a1, a2, a3, a4⟩ <;> rcases B with ⟨b1, b2⟩ | ⟨b1, b2, b3, b4⟩
  · omega
  · exact absurd b3 (a2 r' b1 b2)
  · exact absurd a3 (b2 r a1 a2)
  · rcases (show r < r' ∨ r' < r ∨ r = r' by omega) with q | q | q
    · exact absurd a3 (b4 r a1 q)
    · exact absurd b3 (a4 r' b1 q)
    · exact q
theorem L_isLike {N : Int → Int} {h : am_H} {f n : Int} {p k : Nat} {P : Int → am_H → Prop} (hal : ∀ h : am_H, am_al h p = some k) (hlo : p < 1000) (hk : 8 ≤ k) (F : OF N) (R : FR h N) (f0 : 0 ≤ f) (f1 : f < N 2) (en : N (250 + 9 * f) = n) (H1 : lk N f n (h p) → P 1 h) (H0 : ¬ lk N f n (h p) → P 0 h) : ∀ x4, 0 ≤ x4 → x4 ≤ n → (∀ i, 0 ≤ i → i < x4 → N (251 + 9 * f + i) = h p i) → am_x (am_cd 1) 95 (am_qi P) 0 15 [some (.inr (.inr 11)), some (.inl f), some (.inr (.inr p)), some (.inl n), some (.inl x4)] [] h := by
  have fN := F.1
  have o := F.2 f f0 f1
  refine upto n (fun x4 ih a0 a1 a2 => ?_)
  refine g_Forms_isLike_15 p k hal hlo ⟨fun hc => H1 ⟨en, fun i i0 i1 => a2 i i0 (by omega)⟩, fun hc => ⟨⟨by omega, by omega, by omega⟩, by omega, ?_⟩⟩
  rw [(R.2 f f0 f1).2 x4 a0 (by omega)]
  refine ⟨fun c => ⟨by omega, ih hc (by omega) (by omega) (fun i i0 i1 => ?_)⟩, fun c => H0 (fun q => c (q.2 x4 a0 hc))⟩
  by_cases q : i = x4
  · rw [q]; exact c
  · exact a2 i i0 (by omega)
theorem S_isLike {N : Int → Int} {h : am_H} {f n : Int} {p k : Nat} {P : Int → am_H → Prop} (hal : ∀ h : am_H, am_al h p = some k) (hlo : p < 1000) (hk : 8 ≤ k) (F : OF N) (R : FR h N) (f0 : 0 ≤ f) (f1 : f < N 2) (H1 : lk N f n (h p) → P 1 h) (H0 : ¬ lk N f n (h p) → P 0 h) : ∃ a_ h_, am_cd 2 95 [.inr (.inr 11), .inl f, .inr (.inr p), .inl n] h (some (.inl a_)) h_ ∧ P a_ h_ := by
  have fN := F.1
  have o := F.2 f f0 f1
  refine e_Forms_isLike p k hal hlo ⟨by omega, ?_⟩
  rw [(R.2 f f0 f1).1]
  exact ⟨fun c => L_isLike hal hlo hk F R f0 f1 c H1 H0 0 (by omega) (by omega) (fun i _ _ => by omega), fun c => H0 (fun q => c q.1)⟩
theorem L_find {N : Int → Int} {h : am_H} {n : Int} {p k : Nat} {P : Int → am_H → Prop} (hal : ∀ h : am_H, am_al h p = some k) (hlo : p < 1000) (hk : 8 ≤ k) (F : OF N) (R : FR h N) (H : ∀ r, fnd N n (h p) r → P r h) : ∀ x3, 0 ≤ x3 → x3 ≤ N 2 → (∀ f, 0 ≤ f → f < x3 → ¬ lk N f n (h p)) → am_x (am_cd 2) 143 (am_qi P) 0 2 [some (.inr (.inr 11)), some (.inr (.inr p)), some (.inl n), some (.inl x3)] [] h := by
  have fN := F.1
  have R0 := R.1
  refine upto (N 2) (fun x3 ih a0 a1 a2 => ?_)
  refine g_Forms_find_2 p k hal hlo ⟨fun hc => H _ (.inl ⟨rfl, fun f f0 f1 => a2 f f0 (by omega)⟩), fun hc => ?_⟩
  refine am_lifti (Nat.le_of_ble_eq_true rfl) (S_isLike hal hlo hk F R a0 (by omega) (fun l => ⟨fun c => by omega, fun c => H _ (.inr ⟨a0, by omega, l, a2⟩)⟩) (fun l => ⟨fun c => ⟨by omega, ih (by omega) (by omega) (by omega) (fun f f0 f1 => ?_)⟩, fun c => absurd rfl c⟩))
  by_cases q : f = x3
  · rw [q]; exact l
  · exact a2 f f0 (by omega)
theorem S_find {N : Int → Int} {h : am_H} {n : Int} {p k : Nat} {P : Int → am_H → Prop} (hal : ∀ h : am_H, am_al h p = some k) (hlo : p < 1000) (hk : 8 ≤ k) (F : OF N) (R : FR h N) (H : ∀ r, fnd N n (h p) r → P r h) : ∃ a_ h_, am_cd 3 143 [.inr (.inr 11), .inr (.inr p), .inl n] h (some (.inl a_)) h_ ∧ P a_ h_ :=
  e_Forms_find p k hal hlo (L_find hal hlo hk F R H 0 (by omega) F.1.1 (fun f _ _ => by omega))
theorem L_MisThat {N : Int → Int} {h : am_H} {f n : Int} {P : Int → am_H → Prop} (F : OF N) (eN : h 57 = N) (en : h 56 16 = n) (n0 : 0 ≤ n) (n1 : n ≤ 8) (f1 : f < N 2) (H1 : 0 ≤ f → lk N f n (h 67) → P 1 h) (H0 : ¬ (0 ≤ f ∧ lk N f n (h 67)) → P 0 h) : ∀ x3 x2, 0 ≤ x3 → x3 ≤ n → ((x2 = 1 ∧ 0 ≤ f ∧ N (250 + 9 * f) = n ∧ ∀ i, 0 ≤ i → i < x3 → N (251 + 9 * f + i) = h 67 i) ∨ (x2 = 0 ∧ ¬ (0 ≤ f ∧ lk N f n (h 67)))) → am_x (am_cd 1) 132 (am_qi P) 0 24 [some (.inr (.inr 56)), some (.inl f), some (.inl x2), some (.inl x3)] [] h := by
  have fN := F.1
  refine upto n (fun x3 ih x2 a0 a1 a2 => ?_)
  refine g_Mo_isThat_24 ?_
  rw [en, eN]
  refine ⟨fun hc => ⟨by omega, ?_⟩, fun hc => ⟨fun c => ⟨.inl c, ?_⟩, fun c => ?_⟩⟩
  · rcases a2 with ⟨rfl, b1, b2, b3⟩ | ⟨rfl, b⟩
    · exact H1 b1 ⟨b2, fun i i0 i1 => b3 i i0 (by omega)⟩
    · exact H0 b
  · rcases a2 with ⟨b, -⟩ | ⟨rfl, b⟩
    · omega
    · exact H0 b
  · rcases a2 with ⟨rfl, b1, b2, b3⟩ | ⟨b, -⟩
    · have o := F.2 f b1 f1
      refine ⟨⟨by omega, by omega, by omega, by omega, by omega⟩, by omega, fun c2 => ⟨by omega, ih hc _ (by omega) (by omega) (.inr ⟨rfl, fun q => c2 (q.2.2 x3 a0 hc)⟩)⟩, fun c2 => ⟨by omega, ih hc _ (by omega) (by omega) (.inl ⟨rfl, b1, b2, fun i i0 i1 => ?_⟩)⟩⟩
      by_cases q : i = x3
      · rw [q]; exact c2
      · exact b3 i i0 (by omega)
    · omega
theorem S_MisThat {N : Int → Int} {h : am_H} {f n : Int} {P : Int → am_H → Prop} (F : OF N) (eN : h 57 = N) (en : h 56 16 = n) (n0 : 0 ≤ n) (n1 : n ≤ 8) (f1 : f < N 2) (H1 : 0 ≤ f → lk N f n (h 67) → P 1 h) (H0 : ¬ (0 ≤ f ∧ lk N f n (h 67)) → P 0 h) : ∃ a_ h_, am_cd 2 132 [.inr (.inr 56), .inl f] h (some (.inl a_)) h_ ∧ P a_ h_ := by
  have fN := F.1
  refine e_Mo_isThat ?_
  rw [en, eN]
  refine ⟨fun c => L_MisThat F eN en n0 n1 f1 H1 H0 0 0 (by omega) n0 (.inr ⟨rfl, by omega⟩), fun c => ⟨⟨by omega, by omega, by omega⟩, fun q => L_MisThat F eN en n0 n1 f1 H1 H0 0 0 (by omega) n0 (.inr ⟨rfl, fun k => q k.2.1⟩), fun q => L_MisThat F eN en n0 n1 f1 H1 H0 0 1 (by omega) n0 (.inl ⟨rfl, c, q, fun i _ _ => by omega⟩)⟩⟩
