theorem S_bitCount {h : am_H} {x : Int} {P : Int → am_H → Prop} (x0 : 0 ≤ x) (x1 : x < 4096) (H : P (cn x 12) h) : ∃ a_ h_, am_cd 1 86 [.inl x] h (some (.inl a_)) h_ ∧ P a_ h_ := by
  obtain ⟨n, rfl⟩ := Int.eq_ofNat_of_zero_le x0
  have := bc_n n (by omega)
  refine e_Integer_bitCount ⟨this.1, ?_⟩
  have e := this.2
  unfold bc_v at e
  rw [e]; exact H
theorem L_McountOf {h : am_H} {P : Int → am_H → Prop} {c : Int} (H : P c h) : ∀ x2 x1, 0 ≤ x2 → x2 < 4096 → 0 ≤ x1 → x1 + cn x2 12 = c → c ≤ 12 → am_x (am_cd 0) 85 (am_qi P) 0 4 [none, some (.inl x1), some (.inl x2)] [] h := by
  refine measured (fun x : Int => x.toNat) (fun x2 ih x1 a0 a1 a2 a3 a4 => ?_)
  refine g_Mo_countOf_4 ⟨fun hc => ?_, fun hc => ?_⟩
  · subst hc
    rw [show cn 0 12 = 0 from by decide +kernel] at a3
    rw [show x1 = c by omega]; exact H
  · obtain ⟨n, rfl⟩ := Int.eq_ofNat_of_zero_le a0
    have q := co_n n (by omega) (by omega)
    have := cn_bd (n : Int)
    exact ⟨⟨by omega, by omega⟩, ih _ (by show (am_and _ _).toNat < _; omega) _ q.2.1 (by omega) (by omega) (by rw [q.1]; omega) a4⟩
theorem S_McountOf {h : am_H} {x : Int} {P : Int → am_H → Prop} (x0 : 0 ≤ x) (x1 : x < 4096) (H : P (cn x 12) h) : ∃ a_ h_, am_cd 1 85 [.inl x] h (some (.inl a_)) h_ ∧ P a_ h_ :=
  e_Mo_countOf (L_McountOf H x 0 x0 x1 (by omega) (by omega) (cn_bd x).2)
