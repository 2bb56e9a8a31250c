theorem e_Answers_size {h : am_H}  {r1 : Int} (hr1 : h 17 1 = r1) {P : Int → am_H → Prop} (H : P r1 h) : ∃ a h1, am_cd 1 0 [.inr (.inr 17)] h (some (.inl a)) h1 ∧ P a h1 := by
  refine am_outi (d := 0) (ls := [some (.inr (.inr 17))]) rfl ab0 ml0 (Nat.le_of_ble_eq_true rfl) np0 rfl ?_
  refine x_aload_n (q0c0 0 rfl) rfl ?_
  refine x_getf (q0c0 1 rfl) fd17_1 (hr1) ?_
  exact x_ireti (q0c0 2 rfl) zb0 H
theorem e_Answers_has {h : am_H} {x1 : Int} {r1 : Int} (hr1 : h 17 1 = r1) {P : Int → am_H → Prop} (H : ((0 ≤ x1 ∧ x1 < r1) → P 1 h) ∧ ((¬(0 ≤ x1 ∧ x1 < r1)) → P 0 h)) : ∃ a h1, am_cd 1 1 [.inr (.inr 17), .inl x1] h (some (.inl a)) h1 ∧ P a h1 := by
  refine am_outi (d := 0) (ls := [some (.inr (.inr 17)), some (.inl x1)]) rfl ab1 ml1 (Nat.le_of_ble_eq_true rfl) np1 rfl ?_
  refine x_iload_n (q1c0 0 rfl) rfl ?_
  refine x_if_lt (q1c0 1 rfl) (fun c1 => ?_) (fun c1 => ?_)
  · refine x_iconst (q1c0 8 rfl) ?_
    exact x_iretz (q1c0 9 rfl) (.inl rfl) (H.2 (by omega))
  · refine x_iload_n (q1c0 2 rfl) rfl ?_
    refine x_aload_n (q1c0 3 rfl) rfl ?_
    refine x_getf (q1c0 4 rfl) fd17_1 (hr1) ?_
    refine x_icmp_ge (q1c0 5 rfl) (fun c2 => ?_) (fun c2 => ?_)
    · refine x_iconst (q1c0 8 rfl) ?_
      exact x_iretz (q1c0 9 rfl) (.inl rfl) (H.2 (by omega))
    · refine x_iconst (q1c0 6 rfl) ?_
      refine x_goto (q1c0 7 rfl) ?_
      exact x_iretz (q1c0 9 rfl) (.inr rfl) (H.1 (by omega))
theorem e_Answers_write {h : am_H} {x1 : Int} {x2 : Int} {x3 : Int} {x4 : Int} {r1 : Int} (hr1 : h 17 1 = r1) {P : Int → am_H → Prop} (H : ((0 ≤ r1 ∧ r1 < 60) ∧ am_ok (r1 + 1)) ∧ P r1 (am_up (am_up (am_up (am_up (am_up (am_up h 18 r1 x1) 19 r1 x2) 20 r1 x3) 21 r1 x4) 22 r1 (-1)) 17 1 (r1 + 1))) : ∃ a h1, am_cd 1 2 [.inr (.inr 17), .inl x1, .inl x2, .inl x3, .inl x4] h (some (.inl a)) h1 ∧ P a h1 := by
  refine am_outi (d := 0) (ls := [some (.inr (.inr 17)), some (.inl x1), some (.inl x2), some (.inl x3), some (.inl x4)]) rfl ab2 ml2 (Nat.le_of_ble_eq_true rfl) np2 rfl ?_
  obtain ⟨⟨s1, s2⟩, H⟩ := H
  refine x_aload_n (q2c0 0 rfl) rfl ?_
  refine x_getr (q2c0 1 rfl) fd17_2 ?_
  refine x_aload_n (q2c0 2 rfl) rfl ?_
  refine x_getf (q2c0 3 rfl) fd17_1 (hr1) ?_
  refine x_iload_n (q2c0 4 rfl) rfl ?_
  refine x_iastore (q2c0 5 rfl) (al18 _) rfl (Nat.le_of_ble_eq_true rfl) s1 (j := r1) rfl ?_
  refine x_aload_n (q2c0 6 rfl) rfl ?_
  refine x_getr (q2c0 7 rfl) fd17_3 ?_
  refine x_aload_n (q2c0 8 rfl) rfl ?_
  refine x_getf (q2c0 9 rfl) fd17_1 (up_c rfl (hr1)) ?_
  refine x_iload_n (q2c0 10 rfl) rfl ?_
  refine x_iastore (q2c0 11 rfl) (al19 _) rfl (Nat.le_of_ble_eq_true rfl) s1 (j := r1) rfl ?_
  refine x_aload_n (q2c0 12 rfl) rfl ?_
  refine x_getr (q2c0 13 rfl) fd17_4 ?_
  refine x_aload_n (q2c0 14 rfl) rfl ?_
  refine x_getf (q2c0 15 rfl) fd17_1 (up_c rfl (up_c rfl (hr1))) ?_
  refine x_iload_n (q2c0 16 rfl) rfl ?_
  refine x_iastore (q2c0 17 rfl) (al20 _) rfl (Nat.le_of_ble_eq_true rfl) s1 (j := r1) rfl ?_
  refine x_aload_n (q2c0 18 rfl) rfl ?_
  refine x_getr (q2c0 19 rfl) fd17_5 ?_
  refine x_aload_n (q2c0 20 rfl) rfl ?_
  refine x_getf (q2c0 21 rfl) fd17_1 (up_c rfl (up_c rfl (up_c rfl (hr1)))) ?_
  refine x_iload (q2c0 22 rfl) rfl ?_
  refine x_iastore (q2c0 23 rfl) (al21 _) rfl (Nat.le_of_ble_eq_true rfl) s1 (j := r1) rfl ?_
  refine x_aload_n (q2c0 24 rfl) rfl ?_
  refine x_getr (q2c0 25 rfl) fd17_6 ?_
  refine x_aload_n (q2c0 26 rfl) rfl ?_
  refine x_getf (q2c0 27 rfl) fd17_1 (up_c rfl (up_c rfl (up_c rfl (up_c rfl (hr1))))) ?_
  refine x_iconst (q2c0 28 rfl) ?_
  refine x_iastore (q2c0 29 rfl) (al22 _) rfl (Nat.le_of_ble_eq_true rfl) s1 (j := r1) rfl ?_
  refine x_aload_n (q2c0 30 rfl) rfl ?_
  refine x_dup (q2c0 31 rfl) trivial ?_
  refine x_getf (q2c0 32 rfl) fd17_1 (up_c rfl (up_c rfl (up_c rfl (up_c rfl (up_c rfl (hr1)))))) ?_
  refine x_dup_x1 (q2c0 33 rfl) ⟨trivial, trivial⟩ ?_
  refine x_iconst (q2c0 34 rfl) ?_
  refine x_iadd (q2c0 35 rfl) s2 ?_
  refine x_putf (q2c0 36 rfl) fd17_1 ?_
  exact x_ireti (q2c0 37 rfl) zb2 H
theorem e_Answers_erase {h : am_H}  {r1 : Int} (hr1 : h 17 1 = r1) {P : am_H → Prop} (H : (am_ok (r1 - 1)) ∧ P (am_up h 17 1 (r1 - 1))) : ∃ h1, am_cd 1 3 [.inr (.inr 17)] h none h1 ∧ P h1 := by
  refine am_outv (d := 0) (ls := [some (.inr (.inr 17))]) rfl ab3 ml3 (Nat.le_of_ble_eq_true rfl) np3 rfl ?_
  obtain ⟨s1, H⟩ := H
  refine x_aload_n (q3c0 0 rfl) rfl ?_
  refine x_dup (q3c0 1 rfl) trivial ?_
  refine x_getf (q3c0 2 rfl) fd17_1 (hr1) ?_
  refine x_iconst (q3c0 3 rfl) ?_
  refine x_isub (q3c0 4 rfl) s1 ?_
  refine x_putf (q3c0 5 rfl) fd17_1 ?_
  exact x_ret (q3c0 6 rfl) H
theorem e_Answers_isTaken {h : am_H} {x1 : Int} {r1 : Int} (hr1 : h 22 x1 = r1) {P : Int → am_H → Prop} (H : (0 ≤ x1 ∧ x1 < 60) ∧ ((r1 ≠ (-1) → P 1 h) ∧ (r1 = (-1) → P 0 h))) : ∃ a h1, am_cd 1 4 [.inr (.inr 17), .inl x1] h (some (.inl a)) h1 ∧ P a h1 := by
  refine am_outi (d := 0) (ls := [some (.inr (.inr 17)), some (.inl x1)]) rfl ab4 ml4 (Nat.le_of_ble_eq_true rfl) np4 rfl ?_
  obtain ⟨z0, H⟩ := H
  have s1 := z0
  refine x_aload_n (q4c0 0 rfl) rfl ?_
  refine x_getr (q4c0 1 rfl) fd17_6 ?_
  refine x_iload_n (q4c0 2 rfl) rfl ?_
  refine x_iaload (q4c0 3 rfl) (al22 _) rfl (ag_l rfl rfl (hr1)) s1 ?_
  refine x_iconst (q4c0 4 rfl) ?_
  refine x_icmp_eq (q4c0 5 rfl) (fun c2 => ?_) (fun c2 => ?_)
  · refine x_iconst (q4c0 8 rfl) ?_
    exact x_iretz (q4c0 9 rfl) (.inl rfl) (H.2 (by omega))
  · refine x_iconst (q4c0 6 rfl) ?_
    refine x_goto (q4c0 7 rfl) ?_
    exact x_iretz (q4c0 9 rfl) (.inr rfl) (H.1 (by omega))
theorem e_Answers_strike {h : am_H} {x1 : Int} {x2 : Int} {P : am_H → Prop} (H : (0 ≤ x1 ∧ x1 < 60) ∧ P (am_up h 22 x1 x2)) : ∃ h1, am_cd 1 5 [.inr (.inr 17), .inl x1, .inl x2] h none h1 ∧ P h1 := by
  refine am_outv (d := 0) (ls := [some (.inr (.inr 17)), some (.inl x1), some (.inl x2)]) rfl ab5 ml5 (Nat.le_of_ble_eq_true rfl) np5 rfl ?_
  obtain ⟨s1, H⟩ := H
  refine x_aload_n (q5c0 0 rfl) rfl ?_
  refine x_getr (q5c0 1 rfl) fd17_6 ?_
  refine x_iload_n (q5c0 2 rfl) rfl ?_
  refine x_iload_n (q5c0 3 rfl) rfl ?_
  refine x_iastore (q5c0 4 rfl) (al22 _) rfl (Nat.le_of_ble_eq_true rfl) s1 (j := x1) rfl ?_
  exact x_ret (q5c0 5 rfl) H
theorem e_Answers_restore {h : am_H} {x1 : Int} {P : am_H → Prop} (H : (0 ≤ x1 ∧ x1 < 60) ∧ P (am_up h 22 x1 (-1))) : ∃ h1, am_cd 1 6 [.inr (.inr 17), .inl x1] h none h1 ∧ P h1 := by
  refine am_outv (d := 0) (ls := [some (.inr (.inr 17)), some (.inl x1)]) rfl ab6 ml6 (Nat.le_of_ble_eq_true rfl) np6 rfl ?_
  obtain ⟨s1, H⟩ := H
  refine x_aload_n (q6c0 0 rfl) rfl ?_
  refine x_getr (q6c0 1 rfl) fd17_6 ?_
  refine x_iload_n (q6c0 2 rfl) rfl ?_
  refine x_iconst (q6c0 3 rfl) ?_
  refine x_iastore (q6c0 4 rfl) (al22 _) rfl (Nat.le_of_ble_eq_true rfl) s1 (j := x1) rfl ?_
  exact x_ret (q6c0 5 rfl) H
theorem e_Answers_partOf {h : am_H} {x1 : Int} {x2 : Int} {P : Int → am_H → Prop} (H : (x2 = 0 → ((0 ≤ x1 ∧ x1 < 60) ∧ P (h 18 x1) h)) ∧ (x2 ≠ 0 → ((x2 = 1 → ((0 ≤ x1 ∧ x1 < 60) ∧ P (h 19 x1) h)) ∧ (x2 ≠ 1 → ((x2 = 2 → ((0 ≤ x1 ∧ x1 < 60) ∧ P (h 20 x1) h)) ∧ (x2 ≠ 2 → ((x2 = 3 → ((0 ≤ x1 ∧ x1 < 60) ∧ P (h 21 x1) h)) ∧ (x2 ≠ 3 → ((0 ≤ x1 ∧ x1 < 60) ∧ P (h 22 x1) h))))))))) : ∃ a h1, am_cd 1 7 [.inr (.inr 17), .inl x1, .inl x2] h (some (.inl a)) h1 ∧ P a h1 := by
  refine am_outi (d := 0) (ls := [some (.inr (.inr 17)), some (.inl x1), some (.inl x2)]) rfl ab7 ml7 (Nat.le_of_ble_eq_true rfl) np7 rfl ?_
  refine x_iload_n (q7c0 0 rfl) rfl ?_
  refine x_tsw (q7c0 1 rfl) (tg := 68) (ts := [32, 41, 50, 59]) rfl rfl ?_
  refine sw_cons (fun c1 => ?_) (fun c1 => ?_)
  · replace H := H.1 c1
    obtain ⟨s2, H⟩ := H
    refine x_aload_n (q7c0 2 rfl) rfl ?_
    refine x_getr (q7c0 3 rfl) fd17_2 ?_
    refine x_iload_n (q7c0 4 rfl) rfl ?_
    refine x_iaload (q7c0 5 rfl) (al18 _) rfl (ag_l rfl rfl (rfl)) s2 ?_
    refine x_goto (q7c0 6 rfl) ?_
    exact x_ireti (q7c0 26 rfl) zb7 H
  · replace H := H.2 c1
    refine sw_cons (fun c3 => ?_) (fun c3 => ?_)
    · replace H := H.1 c3
      obtain ⟨s4, H⟩ := H
      refine x_aload_n (q7c0 7 rfl) rfl ?_
      refine x_getr (q7c0 8 rfl) fd17_3 ?_
      refine x_iload_n (q7c0 9 rfl) rfl ?_
      refine x_iaload (q7c0 10 rfl) (al19 _) rfl (ag_l rfl rfl (rfl)) s4 ?_
      refine x_goto (q7c0 11 rfl) ?_
      exact x_ireti (q7c0 26 rfl) zb7 H
    · replace H := H.2 c3
      refine sw_cons (fun c5 => ?_) (fun c5 => ?_)
      · replace H := H.1 c5
        obtain ⟨s6, H⟩ := H
        refine x_aload_n (q7c0 12 rfl) rfl ?_
        refine x_getr (q7c0 13 rfl) fd17_4 ?_
        refine x_iload_n (q7c0 14 rfl) rfl ?_
        refine x_iaload (q7c0 15 rfl) (al20 _) rfl (ag_l rfl rfl (rfl)) s6 ?_
        refine x_goto (q7c0 16 rfl) ?_
        exact x_ireti (q7c0 26 rfl) zb7 H
      · replace H := H.2 c5
        refine sw_cons (fun c7 => ?_) (fun c7 => ?_)
        · replace H := H.1 c7
          obtain ⟨s8, H⟩ := H
          refine x_aload_n (q7c0 17 rfl) rfl ?_
          refine x_getr (q7c0 18 rfl) fd17_5 ?_
          refine x_iload_n (q7c0 19 rfl) rfl ?_
          refine x_iaload (q7c0 20 rfl) (al21 _) rfl (ag_l rfl rfl (rfl)) s8 ?_
          refine x_goto (q7c0 21 rfl) ?_
          exact x_ireti (q7c0 26 rfl) zb7 H
        · replace H := H.2 c7
          refine sw_nil ?_
          obtain ⟨s9, H⟩ := H
          refine x_aload_n (q7c0 22 rfl) rfl ?_
          refine x_getr (q7c0 23 rfl) fd17_6 ?_
          refine x_iload_n (q7c0 24 rfl) rfl ?_
          refine x_iaload (q7c0 25 rfl) (al22 _) rfl (ag_l rfl rfl (rfl)) s9 ?_
          exact x_ireti (q7c0 26 rfl) zb7 H
theorem e_Answers_isKnown {h : am_H} {x1 : Int} {x2 : Int} {r1 r2 : Int} (hr1 : h 21 x1 = r1) (hr2 : h 22 x1 = r2) {P : Int → am_H → Prop} (H : (0 ≤ x1 ∧ x1 < 60) ∧ (((r1 ≤ x2 ∧ (r2 = -1 ∨ x2 < r2)) → P 1 h) ∧ ((¬(r1 ≤ x2 ∧ (r2 = -1 ∨ x2 < r2))) → P 0 h))) : ∃ a h1, am_cd 1 8 [.inr (.inr 17), .inl x1, .inl x2] h (some (.inl a)) h1 ∧ P a h1 := by
  refine am_outi (d := 0) (ls := [some (.inr (.inr 17)), some (.inl x1), some (.inl x2)]) rfl ab8 ml8 (Nat.le_of_ble_eq_true rfl) np8 rfl ?_
  obtain ⟨z0, H⟩ := H
  have s1 := z0
  refine x_aload_n (q8c0 0 rfl) rfl ?_
  refine x_getr (q8c0 1 rfl) fd17_5 ?_
  refine x_iload_n (q8c0 2 rfl) rfl ?_
  refine x_iaload (q8c0 3 rfl) (al21 _) rfl (ag_l rfl rfl (hr1)) s1 ?_
  refine x_iload_n (q8c0 4 rfl) rfl ?_
  refine x_icmp_gt (q8c0 5 rfl) (fun c2 => ?_) (fun c2 => ?_)
  · refine x_iconst (q8c0 20 rfl) ?_
    exact x_iretz (q8c0 21 rfl) (.inl rfl) (H.2 (by omega))
  · refine x_aload_n (q8c0 6 rfl) rfl ?_
    refine x_getr (q8c0 7 rfl) fd17_6 ?_
    refine x_iload_n (q8c0 8 rfl) rfl ?_
    refine x_iaload (q8c0 9 rfl) (al22 _) rfl (ag_l rfl rfl (hr2)) s1 ?_
    refine x_iconst (q8c0 10 rfl) ?_
    refine x_icmp_eq (q8c0 11 rfl) (fun c3 => ?_) (fun c3 => ?_)
    · refine x_iconst (q8c0 18 rfl) ?_
      refine x_goto (q8c0 19 rfl) ?_
      exact x_iretz (q8c0 21 rfl) (.inr rfl) (H.1 (by omega))
    · refine x_aload_n (q8c0 12 rfl) rfl ?_
      refine x_getr (q8c0 13 rfl) fd17_6 ?_
      refine x_iload_n (q8c0 14 rfl) rfl ?_
      refine x_iaload (q8c0 15 rfl) (al22 _) rfl (ag_l rfl rfl (hr2)) s1 ?_
      refine x_iload_n (q8c0 16 rfl) rfl ?_
      refine x_icmp_le (q8c0 17 rfl) (fun c4 => ?_) (fun c4 => ?_)
      · refine x_iconst (q8c0 20 rfl) ?_
        exact x_iretz (q8c0 21 rfl) (.inl rfl) (H.2 (by omega))
      · refine x_iconst (q8c0 18 rfl) ?_
        refine x_goto (q8c0 19 rfl) ?_
        exact x_iretz (q8c0 21 rfl) (.inr rfl) (H.1 (by omega))
theorem e_Asked_isKind {h : am_H} {x0 : Int} {P : Int → am_H → Prop} (H : ((0 ≤ x0 ∧ x0 ≤ 3) → P 1 h) ∧ ((¬(0 ≤ x0 ∧ x0 ≤ 3)) → P 0 h)) : ∃ a h1, am_cd 1 9 [.inl x0] h (some (.inl a)) h1 ∧ P a h1 := by
  refine am_outi (d := 0) (ls := [some (.inl x0)]) rfl ab9 ml9 (Nat.le_of_ble_eq_true rfl) np9 rfl ?_
  refine x_iload_n (q9c0 0 rfl) rfl ?_
  refine x_if_lt (q9c0 1 rfl) (fun c1 => ?_) (fun c1 => ?_)
  · refine x_iconst (q9c0 7 rfl) ?_
    exact x_iretz (q9c0 8 rfl) (.inl rfl) (H.2 (by omega))
  · refine x_iload_n (q9c0 2 rfl) rfl ?_
    refine x_iconst (q9c0 3 rfl) ?_
    refine x_icmp_gt (q9c0 4 rfl) (fun c2 => ?_) (fun c2 => ?_)
    · refine x_iconst (q9c0 7 rfl) ?_
      exact x_iretz (q9c0 8 rfl) (.inl rfl) (H.2 (by omega))
    · refine x_iconst (q9c0 5 rfl) ?_
      refine x_goto (q9c0 6 rfl) ?_
      exact x_iretz (q9c0 8 rfl) (.inr rfl) (H.1 (by omega))
theorem e_Asked_size {h : am_H}  {r1 : Int} (hr1 : h 7 0 = r1) {P : Int → am_H → Prop} (H : P r1 h) : ∃ a h1, am_cd 1 10 [.inr (.inr 7)] h (some (.inl a)) h1 ∧ P a h1 := by
  refine am_outi (d := 0) (ls := [some (.inr (.inr 7))]) rfl ab10 ml10 (Nat.le_of_ble_eq_true rfl) np10 rfl ?_
  refine x_aload_n (q10c0 0 rfl) rfl ?_
  refine x_getf (q10c0 1 rfl) fd7_0 (hr1) ?_
  exact x_ireti (q10c0 2 rfl) zb10 H
theorem e_Asked_has {h : am_H} {x1 : Int} {r1 : Int} (hr1 : h 7 0 = r1) {P : Int → am_H → Prop} (H : ((0 ≤ x1 ∧ x1 < r1) → P 1 h) ∧ ((¬(0 ≤ x1 ∧ x1 < r1)) → P 0 h)) : ∃ a h1, am_cd 1 11 [.inr (.inr 7), .inl x1] h (some (.inl a)) h1 ∧ P a h1 := by
  refine am_outi (d := 0) (ls := [some (.inr (.inr 7)), some (.inl x1)]) rfl ab11 ml11 (Nat.le_of_ble_eq_true rfl) np11 rfl ?_
  refine x_iload_n (q11c0 0 rfl) rfl ?_
  refine x_if_lt (q11c0 1 rfl) (fun c1 => ?_) (fun c1 => ?_)
  · refine x_iconst (q11c0 8 rfl) ?_
    exact x_iretz (q11c0 9 rfl) (.inl rfl) (H.2 (by omega))
  · refine x_iload_n (q11c0 2 rfl) rfl ?_
    refine x_aload_n (q11c0 3 rfl) rfl ?_
    refine x_getf (q11c0 4 rfl) fd7_0 (hr1) ?_
    refine x_icmp_ge (q11c0 5 rfl) (fun c2 => ?_) (fun c2 => ?_)
    · refine x_iconst (q11c0 8 rfl) ?_
      exact x_iretz (q11c0 9 rfl) (.inl rfl) (H.2 (by omega))
    · refine x_iconst (q11c0 6 rfl) ?_
      refine x_goto (q11c0 7 rfl) ?_
      exact x_iretz (q11c0 9 rfl) (.inr rfl) (H.1 (by omega))
theorem e_Asked_meet {h : am_H} {x1 : Int} {x2 : Int} {x3 : Int} {r1 : Int} (hr1 : h 7 0 = r1) {P : Int → am_H → Prop} (H : ((0 ≤ r1 ∧ r1 < 20) ∧ am_ok (r1 + 1)) ∧ P r1 (am_up (am_up (am_up (am_up h 8 r1 x1) 9 r1 x2) 10 r1 x3) 7 0 (r1 + 1))) : ∃ a h1, am_cd 1 12 [.inr (.inr 7), .inl x1, .inl x2, .inl x3] h (some (.inl a)) h1 ∧ P a h1 := by
  refine am_outi (d := 0) (ls := [some (.inr (.inr 7)), some (.inl x1), some (.inl x2), some (.inl x3)]) rfl ab12 ml12 (Nat.le_of_ble_eq_true rfl) np12 rfl ?_
  obtain ⟨⟨s1, s2⟩, H⟩ := H
  refine x_aload_n (q12c0 0 rfl) rfl ?_
  refine x_getr (q12c0 1 rfl) fd7_1 ?_
  refine x_aload_n (q12c0 2 rfl) rfl ?_
  refine x_getf (q12c0 3 rfl) fd7_0 (hr1) ?_
  refine x_iload_n (q12c0 4 rfl) rfl ?_
  refine x_iastore (q12c0 5 rfl) (al8 _) rfl (Nat.le_of_ble_eq_true rfl) s1 (j := r1) rfl ?_
  refine x_aload_n (q12c0 6 rfl) rfl ?_
  refine x_getr (q12c0 7 rfl) fd7_2 ?_
  refine x_aload_n (q12c0 8 rfl) rfl ?_
  refine x_getf (q12c0 9 rfl) fd7_0 (up_c rfl (hr1)) ?_
  refine x_iload_n (q12c0 10 rfl) rfl ?_
  refine x_iastore (q12c0 11 rfl) (al9 _) rfl (Nat.le_of_ble_eq_true rfl) s1 (j := r1) rfl ?_
  refine x_aload_n (q12c0 12 rfl) rfl ?_
  refine x_getr (q12c0 13 rfl) fd7_3 ?_
  refine x_aload_n (q12c0 14 rfl) rfl ?_
  refine x_getf (q12c0 15 rfl) fd7_0 (up_c rfl (up_c rfl (hr1))) ?_
  refine x_iload_n (q12c0 16 rfl) rfl ?_
  refine x_iastore (q12c0 17 rfl) (al10 _) rfl (Nat.le_of_ble_eq_true rfl) s1 (j := r1) rfl ?_
  refine x_aload_n (q12c0 18 rfl) rfl ?_
  refine x_dup (q12c0 19 rfl) trivial ?_
  refine x_getf (q12c0 20 rfl) fd7_0 (up_c rfl (up_c rfl (up_c rfl (hr1)))) ?_
  refine x_dup_x1 (q12c0 21 rfl) ⟨trivial, trivial⟩ ?_
  refine x_iconst (q12c0 22 rfl) ?_
  refine x_iadd (q12c0 23 rfl) s2 ?_
  refine x_putf (q12c0 24 rfl) fd7_0 ?_
  exact x_ireti (q12c0 25 rfl) zb12 H
theorem e_Asked_forget {h : am_H}  {r1 : Int} (hr1 : h 7 0 = r1) {P : am_H → Prop} (H : (am_ok (r1 - 1)) ∧ P (am_up h 7 0 (r1 - 1))) : ∃ h1, am_cd 1 13 [.inr (.inr 7)] h none h1 ∧ P h1 := by
  refine am_outv (d := 0) (ls := [some (.inr (.inr 7))]) rfl ab13 ml13 (Nat.le_of_ble_eq_true rfl) np13 rfl ?_
  obtain ⟨s1, H⟩ := H
  refine x_aload_n (q13c0 0 rfl) rfl ?_
  refine x_dup (q13c0 1 rfl) trivial ?_
  refine x_getf (q13c0 2 rfl) fd7_0 (hr1) ?_
  refine x_iconst (q13c0 3 rfl) ?_
  refine x_isub (q13c0 4 rfl) s1 ?_
  refine x_putf (q13c0 5 rfl) fd7_0 ?_
  exact x_ret (q13c0 6 rfl) H
theorem e_Asked_homeOf {h : am_H} {x1 : Int} {r1 : Int} (hr1 : h 8 x1 = r1) {P : Int → am_H → Prop} (H : (0 ≤ x1 ∧ x1 < 20) ∧ P r1 h) : ∃ a h1, am_cd 1 14 [.inr (.inr 7), .inl x1] h (some (.inl a)) h1 ∧ P a h1 := by
  refine am_outi (d := 0) (ls := [some (.inr (.inr 7)), some (.inl x1)]) rfl ab14 ml14 (Nat.le_of_ble_eq_true rfl) np14 rfl ?_
  obtain ⟨s1, H⟩ := H
  refine x_aload_n (q14c0 0 rfl) rfl ?_
  refine x_getr (q14c0 1 rfl) fd7_1 ?_
  refine x_iload_n (q14c0 2 rfl) rfl ?_
  refine x_iaload (q14c0 3 rfl) (al8 _) rfl (ag_l rfl rfl (hr1)) s1 ?_
  exact x_ireti (q14c0 4 rfl) zb14 H
theorem e_Asked_isUnder {h : am_H} {x1 : Int} {x2 : Int} {P : Int → am_H → Prop} (H : (0 ≤ x1 ∧ x1 < 20) ∧ am_x (am_cd 0) 15 (am_qi P) 0 10 [none, none, some (.inl x2), some (.inl (h 9 x1)), some (.inl 0)] [] h) : ∃ a h1, am_cd 1 15 [.inr (.inr 7), .inl x1, .inl x2] h (some (.inl a)) h1 ∧ P a h1 := by
  refine am_outi (d := 0) (ls := [some (.inr (.inr 7)), some (.inl x1), some (.inl x2), none, none]) rfl ab15 ml15 (Nat.le_of_ble_eq_true rfl) np15 rfl ?_
  obtain ⟨s1, H⟩ := H
  refine x_aload_n (q15c0 0 rfl) rfl ?_
  refine x_getr (q15c0 1 rfl) fd7_2 ?_
  refine x_iload_n (q15c0 2 rfl) rfl ?_
  refine x_iaload (q15c0 3 rfl) (al9 _) rfl (ag_l rfl rfl (rfl)) s1 ?_
  refine x_istore_n (q15c0 4 rfl) ⟨Nat.le_of_ble_eq_true rfl, trivial⟩ ?_
  refine x_iconst (q15c0 5 rfl) ?_
  refine x_istore (q15c0 6 rfl) ⟨Nat.le_of_ble_eq_true rfl, trivial⟩ ?_
  exact am_x_weak (ls' := [some (.inr (.inr 7)), some (.inl x1), some (.inl x2), some (.inl (h 9 x1)), some (.inl 0)]) (lle_d trivial (lle_d trivial (lle_c (lle_c (lle_c (lle_nil)))))) H
theorem g_Asked_isUnder_10 {h : am_H} {x2 : Int} {x3 : Int} {x4 : Int} {P : Int → am_H → Prop} (H : (4 ≤ x4 → ((x3 ≠ x2 → P 0 h) ∧ (x3 = x2 → P 1 h))) ∧ (x4 < 4 → ((x3 = x2 → P 1 h) ∧ (x3 ≠ x2 → ((x3 ≠ 0 → (((0 ≤ x3 ∧ x3 < 4) ∧ am_ok (x4 + 1)) ∧ am_x (am_cd 0) 15 (am_qi P) 0 10 [none, none, some (.inl x2), some (.inl (am_ct 2001 x3)), some (.inl (x4 + 1))] [] h)) ∧ (x3 = 0 → P 0 h)))))) : am_x (am_cd 0) 15 (am_qi P) 0 10 [none, none, some (.inl x2), some (.inl x3), some (.inl x4)] [] h := by
  refine x_iload (q15c0 7 rfl) rfl ?_
  refine x_gets (q15c0 8 rfl) ?_
  refine x_alen (q15c0 9 rfl) (al2001 _) rfl (z := 4) ?_
  refine x_icmp_ge (q15c0 10 rfl) (fun c1 => ?_) (fun c1 => ?_)
  · replace H := H.1 c1
    refine x_iload_n (q15c0 24 rfl) rfl ?_
    refine x_iload_n (q15c0 25 rfl) rfl ?_
    refine x_icmp_ne (q15c0 26 rfl) (fun c2 => ?_) (fun c2 => ?_)
    · replace H := H.1 c2
      refine x_iconst (q15c0 29 rfl) ?_
      exact x_iretz (q15c0 30 rfl) (.inl rfl) H
    · replace H := H.2 c2
      refine x_iconst (q15c0 27 rfl) ?_
      refine x_goto (q15c0 28 rfl) ?_
      exact x_iretz (q15c0 30 rfl) (.inr rfl) H
  · replace H := H.2 c1
    refine x_iload_n (q15c0 11 rfl) rfl ?_
    refine x_iload_n (q15c0 12 rfl) rfl ?_
    refine x_icmp_eq (q15c0 13 rfl) (fun c3 => ?_) (fun c3 => ?_)
    · replace H := H.1 c3
      refine x_iload_n (q15c0 24 rfl) rfl ?_
      refine x_iload_n (q15c0 25 rfl) rfl ?_
      refine x_icmp_ne_f (q15c0 26 rfl) c3 ?_
      refine x_iconst (q15c0 27 rfl) ?_
      refine x_goto (q15c0 28 rfl) ?_
      exact x_iretz (q15c0 30 rfl) (.inr rfl) H
    · replace H := H.2 c3
      refine x_iload_n (q15c0 14 rfl) rfl ?_
      refine x_if_ne (q15c0 15 rfl) (fun c4 => ?_) (fun c4 => ?_)
      · replace H := H.1 c4
        obtain ⟨⟨s5, s6⟩, H⟩ := H
        refine x_gets (q15c0 18 rfl) ?_
        refine x_iload_n (q15c0 19 rfl) rfl ?_
        refine x_iaload (q15c0 20 rfl) (al2001 _) rfl (ag_s rfl) s5 ?_
        refine x_istore_n (q15c0 21 rfl) ⟨Nat.le_of_ble_eq_true rfl, trivial⟩ ?_
        refine x_iinc (q15c0 22 rfl) rfl ⟨Nat.le_of_ble_eq_true rfl, trivial⟩ s6 ?_
        refine x_goto (q15c0 23 rfl) ?_
        exact H
      · replace H := H.2 c4
        refine x_iconst (q15c0 16 rfl) ?_
        exact x_iretz (q15c0 17 rfl) (.inl rfl) H
theorem e_Asked_weightOf {h : am_H} {x1 : Int} {P : Int → am_H → Prop} (H : (0 ≤ x1 ∧ x1 < 20) ∧ ((h 9 x1 = 1 → ((am_ok (2 * h 10 x1)) ∧ P (2 * h 10 x1) h)) ∧ (h 9 x1 ≠ 1 → ((h 9 x1 = 2 → (((0 ≤ h 10 x1) ∧ am_ok (h 10 x1 / 2 + 1)) ∧ P (h 10 x1 / 2 + 1) h)) ∧ (h 9 x1 ≠ 2 → ((h 9 x1 = 3 → ((am_ok (2 * h 10 x1) ∧ am_ok (2 * (2 * h 10 x1)) ∧ am_ok (2 * (2 * h 10 x1) - 1)) ∧ P (2 * (2 * h 10 x1) - 1) h)) ∧ (h 9 x1 ≠ 3 → P (h 10 x1) h))))))) : ∃ a h1, am_cd 1 16 [.inr (.inr 7), .inl x1] h (some (.inl a)) h1 ∧ P a h1 := by
  refine am_outi (d := 0) (ls := [some (.inr (.inr 7)), some (.inl x1), none]) rfl ab16 ml16 (Nat.le_of_ble_eq_true rfl) np16 rfl ?_
  obtain ⟨s1, H⟩ := H
  refine x_aload_n (q16c0 0 rfl) rfl ?_
  refine x_getr (q16c0 1 rfl) fd7_3 ?_
  refine x_iload_n (q16c0 2 rfl) rfl ?_
  refine x_iaload (q16c0 3 rfl) (al10 _) rfl (ag_l rfl rfl (rfl)) s1 ?_
  refine x_istore_n (q16c0 4 rfl) ⟨Nat.le_of_ble_eq_true rfl, trivial⟩ ?_
  refine x_aload_n (q16c0 5 rfl) rfl ?_
  refine x_getr (q16c0 6 rfl) fd7_2 ?_
  refine x_iload_n (q16c0 7 rfl) rfl ?_
  refine x_iaload (q16c0 8 rfl) (al9 _) rfl (ag_l rfl rfl (rfl)) s1 ?_
  refine x_tsw (q16c0 9 rfl) (tg := 64) (ts := [40, 46, 54]) rfl rfl ?_
  refine sw_cons (fun c2 => ?_) (fun c2 => ?_)
  · replace H := H.1 c2
    obtain ⟨s3, H⟩ := H
    refine x_iconst (q16c0 10 rfl) ?_
    refine x_iload_n (q16c0 11 rfl) rfl ?_
    refine x_imul (q16c0 12 rfl) s3 ?_
    refine x_goto (q16c0 13 rfl) ?_
    exact x_ireti (q16c0 29 rfl) zb16 H
  · replace H := H.2 c2
    refine sw_cons (fun c4 => ?_) (fun c4 => ?_)
    · replace H := H.1 c4
      obtain ⟨⟨s5, s6⟩, H⟩ := H
      refine x_iload_n (q16c0 14 rfl) rfl ?_
      refine x_iconst (q16c0 15 rfl) ?_
      refine x_idiv (q16c0 16 rfl) ⟨by decide, s5⟩ ?_
      refine x_iconst (q16c0 17 rfl) ?_
      refine x_iadd (q16c0 18 rfl) s6 ?_
      refine x_goto (q16c0 19 rfl) ?_
      exact x_ireti (q16c0 29 rfl) zb16 H
    · replace H := H.2 c4
      refine sw_cons (fun c7 => ?_) (fun c7 => ?_)
      · replace H := H.1 c7
        obtain ⟨⟨s8, s9, s10⟩, H⟩ := H
        refine x_iconst (q16c0 20 rfl) ?_
        refine x_iconst (q16c0 21 rfl) ?_
        refine x_iload_n (q16c0 22 rfl) rfl ?_
        refine x_imul (q16c0 23 rfl) s8 ?_
        refine x_imul (q16c0 24 rfl) s9 ?_
        refine x_iconst (q16c0 25 rfl) ?_
        refine x_isub (q16c0 26 rfl) s10 ?_
        refine x_goto (q16c0 27 rfl) ?_
        exact x_ireti (q16c0 29 rfl) zb16 H
      · replace H := H.2 c7
        refine sw_nil ?_
        refine x_iload_n (q16c0 28 rfl) rfl ?_
        exact x_ireti (q16c0 29 rfl) zb16 H
theorem e_Border_partOf {h : am_H} {x1 : Int} {P : Int → am_H → Prop} (H : (x1 = 0 → P (h 32 4) h) ∧ (x1 ≠ 0 → ((x1 = 1 → P (h 32 5) h) ∧ (x1 ≠ 1 → ((x1 = 2 → P (h 32 6) h) ∧ (x1 ≠ 2 → P (h 32 7) h)))))) : ∃ a h1, am_cd 1 17 [.inr (.inr 32), .inl x1] h (some (.inl a)) h1 ∧ P a h1 := by
  refine am_outi (d := 0) (ls := [some (.inr (.inr 32)), some (.inl x1)]) rfl ab17 ml17 (Nat.le_of_ble_eq_true rfl) np17 rfl ?_
  refine x_iload_n (q17c0 0 rfl) rfl ?_
  refine x_tsw (q17c0 1 rfl) (tg := 49) (ts := [28, 35, 42]) rfl rfl ?_
  refine sw_cons (fun c1 => ?_) (fun c1 => ?_)
  · replace H := H.1 c1
    refine x_aload_n (q17c0 2 rfl) rfl ?_
    refine x_getf (q17c0 3 rfl) fd32_4 (rfl) ?_
    refine x_goto (q17c0 4 rfl) ?_
    exact x_ireti (q17c0 13 rfl) zb17 H
  · replace H := H.2 c1
    refine sw_cons (fun c2 => ?_) (fun c2 => ?_)
    · replace H := H.1 c2
      refine x_aload_n (q17c0 5 rfl) rfl ?_
      refine x_getf (q17c0 6 rfl) fd32_5 (rfl) ?_
      refine x_goto (q17c0 7 rfl) ?_
      exact x_ireti (q17c0 13 rfl) zb17 H
    · replace H := H.2 c2
      refine sw_cons (fun c3 => ?_) (fun c3 => ?_)
      · replace H := H.1 c3
        refine x_aload_n (q17c0 8 rfl) rfl ?_
        refine x_getf (q17c0 9 rfl) fd32_6 (rfl) ?_
        refine x_goto (q17c0 10 rfl) ?_
        exact x_ireti (q17c0 13 rfl) zb17 H
      · replace H := H.2 c3
        refine sw_nil ?_
        refine x_aload_n (q17c0 11 rfl) rfl ?_
        refine x_getf (q17c0 12 rfl) fd32_7 (rfl) ?_
        exact x_ireti (q17c0 13 rfl) zb17 H
theorem e_Border_offer {h : am_H} {x1 : Int} {x2 : Int} {x3 : Int} {x4 : Int} {P : am_H → Prop} (H : (x1 ≠ h 32 4 → ((x1 < h 32 4 → P (am_up (am_up (am_up (am_up h 32 4 x1) 32 5 x2) 32 6 x3) 32 7 x4)) ∧ (h 32 4 ≤ x1 → P h))) ∧ (x1 = h 32 4 → ((x2 ≠ h 32 5 → ((x1 < h 32 4 → P (am_up (am_up (am_up (am_up h 32 4 x1) 32 5 x2) 32 6 x3) 32 7 x4)) ∧ (h 32 4 ≤ x1 → P h))) ∧ (x2 = h 32 5 → ((h 32 6 ≤ x3 → ((x1 < h 32 4 → P (am_up (am_up (am_up (am_up h 32 4 x1) 32 5 x2) 32 6 x3) 32 7 x4)) ∧ (h 32 4 ≤ x1 → P h))) ∧ (x3 < h 32 6 → ((x1 < h 32 4 → P (am_up (am_up (am_up (am_up h 32 4 x1) 32 5 x2) 32 6 x3) 32 7 x4)) ∧ (h 32 4 ≤ x1 → P (am_up (am_up (am_up (am_up h 32 4 x1) 32 5 x2) 32 6 x3) 32 7 x4))))))))) : ∃ h1, am_cd 1 18 [.inr (.inr 32), .inl x1, .inl x2, .inl x3, .inl x4] h none h1 ∧ P h1 := by
  refine am_outv (d := 0) (ls := [some (.inr (.inr 32)), some (.inl x1), some (.inl x2), some (.inl x3), some (.inl x4), none]) rfl ab18 ml18 (Nat.le_of_ble_eq_true rfl) np18 rfl ?_
  refine x_iload_n (q18c0 0 rfl) rfl ?_
  refine x_aload_n (q18c0 1 rfl) rfl ?_
  refine x_getf (q18c0 2 rfl) fd32_4 (rfl) ?_
  refine x_icmp_ne (q18c0 3 rfl) (fun c1 => ?_) (fun c1 => ?_)
  · replace H := H.1 c1
    refine x_iconst (q18c0 14 rfl) ?_
    refine x_istore (q18c0 15 rfl) ⟨Nat.le_of_ble_eq_true rfl, trivial⟩ ?_
    refine x_iload_n (q18c0 16 rfl) rfl ?_
    refine x_aload_n (q18c0 17 rfl) rfl ?_
    refine x_getf (q18c0 18 rfl) fd32_4 (rfl) ?_
    refine x_icmp_lt (q18c0 19 rfl) (fun c2 => ?_) (fun c2 => ?_)
    · replace H := H.1 c2
      refine x_aload_n (q18c0 22 rfl) rfl ?_
      refine x_iload_n (q18c0 23 rfl) rfl ?_
      refine x_putf (q18c0 24 rfl) fd32_4 ?_
      refine x_aload_n (q18c0 25 rfl) rfl ?_
      refine x_iload_n (q18c0 26 rfl) rfl ?_
      refine x_putf (q18c0 27 rfl) fd32_5 ?_
      refine x_aload_n (q18c0 28 rfl) rfl ?_
      refine x_iload_n (q18c0 29 rfl) rfl ?_
      refine x_putf (q18c0 30 rfl) fd32_6 ?_
      refine x_aload_n (q18c0 31 rfl) rfl ?_
      refine x_iload (q18c0 32 rfl) rfl ?_
      refine x_putf (q18c0 33 rfl) fd32_7 ?_
      exact x_ret (q18c0 34 rfl) H
    · replace H := H.2 c2
      refine x_iload (q18c0 20 rfl) rfl ?_
      refine x_if_eq_t (q18c0 21 rfl) (by decide) ?_
      exact x_ret (q18c0 34 rfl) H
  · replace H := H.2 c1
    refine x_iload_n (q18c0 4 rfl) rfl ?_
    refine x_aload_n (q18c0 5 rfl) rfl ?_
    refine x_getf (q18c0 6 rfl) fd32_5 (rfl) ?_
    refine x_icmp_ne (q18c0 7 rfl) (fun c3 => ?_) (fun c3 => ?_)
    · replace H := H.1 c3
      refine x_iconst (q18c0 14 rfl) ?_
      refine x_istore (q18c0 15 rfl) ⟨Nat.le_of_ble_eq_true rfl, trivial⟩ ?_
      refine x_iload_n (q18c0 16 rfl) rfl ?_
      refine x_aload_n (q18c0 17 rfl) rfl ?_
      refine x_getf (q18c0 18 rfl) fd32_4 (rfl) ?_
      refine x_icmp_lt (q18c0 19 rfl) (fun c4 => ?_) (fun c4 => ?_)
      · replace H := H.1 c4
        refine x_aload_n (q18c0 22 rfl) rfl ?_
        refine x_iload_n (q18c0 23 rfl) rfl ?_
        refine x_putf (q18c0 24 rfl) fd32_4 ?_
        refine x_aload_n (q18c0 25 rfl) rfl ?_
        refine x_iload_n (q18c0 26 rfl) rfl ?_
        refine x_putf (q18c0 27 rfl) fd32_5 ?_
        refine x_aload_n (q18c0 28 rfl) rfl ?_
        refine x_iload_n (q18c0 29 rfl) rfl ?_
        refine x_putf (q18c0 30 rfl) fd32_6 ?_
        refine x_aload_n (q18c0 31 rfl) rfl ?_
        refine x_iload (q18c0 32 rfl) rfl ?_
        refine x_putf (q18c0 33 rfl) fd32_7 ?_
        exact x_ret (q18c0 34 rfl) H
      · replace H := H.2 c4
        refine x_iload (q18c0 20 rfl) rfl ?_
        refine x_if_eq_t (q18c0 21 rfl) (by decide) ?_
        exact x_ret (q18c0 34 rfl) H
    · replace H := H.2 c3
      refine x_iload_n (q18c0 8 rfl) rfl ?_
      refine x_aload_n (q18c0 9 rfl) rfl ?_
      refine x_getf (q18c0 10 rfl) fd32_6 (rfl) ?_
      refine x_icmp_ge (q18c0 11 rfl) (fun c5 => ?_) (fun c5 => ?_)
      · replace H := H.1 c5
        refine x_iconst (q18c0 14 rfl) ?_
        refine x_istore (q18c0 15 rfl) ⟨Nat.le_of_ble_eq_true rfl, trivial⟩ ?_
        refine x_iload_n (q18c0 16 rfl) rfl ?_
        refine x_aload_n (q18c0 17 rfl) rfl ?_
        refine x_getf (q18c0 18 rfl) fd32_4 (rfl) ?_
        refine x_icmp_lt (q18c0 19 rfl) (fun c6 => ?_) (fun c6 => ?_)
        · replace H := H.1 c6
          refine x_aload_n (q18c0 22 rfl) rfl ?_
          refine x_iload_n (q18c0 23 rfl) rfl ?_
          refine x_putf (q18c0 24 rfl) fd32_4 ?_
          refine x_aload_n (q18c0 25 rfl) rfl ?_
          refine x_iload_n (q18c0 26 rfl) rfl ?_
          refine x_putf (q18c0 27 rfl) fd32_5 ?_
          refine x_aload_n (q18c0 28 rfl) rfl ?_
          refine x_iload_n (q18c0 29 rfl) rfl ?_
          refine x_putf (q18c0 30 rfl) fd32_6 ?_
          refine x_aload_n (q18c0 31 rfl) rfl ?_
          refine x_iload (q18c0 32 rfl) rfl ?_
          refine x_putf (q18c0 33 rfl) fd32_7 ?_
          exact x_ret (q18c0 34 rfl) H
        · replace H := H.2 c6
          refine x_iload (q18c0 20 rfl) rfl ?_
          refine x_if_eq_t (q18c0 21 rfl) (by decide) ?_
          exact x_ret (q18c0 34 rfl) H
      · replace H := H.2 c5
        refine x_iconst (q18c0 12 rfl) ?_
        refine x_goto (q18c0 13 rfl) ?_
        refine x_istore (q18c0 15 rfl) ⟨Nat.le_of_ble_eq_true rfl, trivial⟩ ?_
        refine x_iload_n (q18c0 16 rfl) rfl ?_
        refine x_aload_n (q18c0 17 rfl) rfl ?_
        refine x_getf (q18c0 18 rfl) fd32_4 (rfl) ?_
        refine x_icmp_lt (q18c0 19 rfl) (fun c7 => ?_) (fun c7 => ?_)
        · replace H := H.1 c7
          refine x_aload_n (q18c0 22 rfl) rfl ?_
          refine x_iload_n (q18c0 23 rfl) rfl ?_
          refine x_putf (q18c0 24 rfl) fd32_4 ?_
          refine x_aload_n (q18c0 25 rfl) rfl ?_
          refine x_iload_n (q18c0 26 rfl) rfl ?_
          refine x_putf (q18c0 27 rfl) fd32_5 ?_
          refine x_aload_n (q18c0 28 rfl) rfl ?_
          refine x_iload_n (q18c0 29 rfl) rfl ?_
          refine x_putf (q18c0 30 rfl) fd32_6 ?_
          refine x_aload_n (q18c0 31 rfl) rfl ?_
          refine x_iload (q18c0 32 rfl) rfl ?_
          refine x_putf (q18c0 33 rfl) fd32_7 ?_
          exact x_ret (q18c0 34 rfl) H
        · replace H := H.2 c7
          refine x_iload (q18c0 20 rfl) rfl ?_
          refine x_if_eq_f (q18c0 21 rfl) (by decide) ?_
          refine x_aload_n (q18c0 22 rfl) rfl ?_
          refine x_iload_n (q18c0 23 rfl) rfl ?_
          refine x_putf (q18c0 24 rfl) fd32_4 ?_
          refine x_aload_n (q18c0 25 rfl) rfl ?_
          refine x_iload_n (q18c0 26 rfl) rfl ?_
          refine x_putf (q18c0 27 rfl) fd32_5 ?_
          refine x_aload_n (q18c0 28 rfl) rfl ?_
          refine x_iload_n (q18c0 29 rfl) rfl ?_
          refine x_putf (q18c0 30 rfl) fd32_6 ?_
          refine x_aload_n (q18c0 31 rfl) rfl ?_
          refine x_iload (q18c0 32 rfl) rfl ?_
          refine x_putf (q18c0 33 rfl) fd32_7 ?_
          exact x_ret (q18c0 34 rfl) H
theorem e_Dialects_place {h : am_H} {x1 : Int} {x2 : Int} {x3 : Int} {P : am_H → Prop} (H : (am_ok (x1 + 1)) ∧ am_x (am_cd 0) 19 (am_qv P) 0 5 [some (.inr (.inr 33)), some (.inl x1), some (.inl x2), some (.inl x3), some (.inl (x1 + 1))] [] h) : ∃ h1, am_cd 1 19 [.inr (.inr 33), .inl x1, .inl x2, .inl x3] h none h1 ∧ P h1 := by
  refine am_outv (d := 0) (ls := [some (.inr (.inr 33)), some (.inl x1), some (.inl x2), some (.inl x3), none]) rfl ab19 ml19 (Nat.le_of_ble_eq_true rfl) np19 rfl ?_
  obtain ⟨s1, H⟩ := H
  refine x_iload_n (q19c0 0 rfl) rfl ?_
  refine x_iconst (q19c0 1 rfl) ?_
  refine x_iadd (q19c0 2 rfl) s1 ?_
  refine x_istore (q19c0 3 rfl) ⟨Nat.le_of_ble_eq_true rfl, trivial⟩ ?_
  exact H
theorem g_Dialects_place_5 {h : am_H} {x1 : Int} {x2 : Int} {x3 : Int} {x4 : Int} {P : am_H → Prop} (H : (h 33 9 ≤ x4 → P h) ∧ (x4 < h 33 9 → ((am_ok (x4 * 4) ∧ am_ok (x4 * 4 + x2) ∧ (0 ≤ x4 * 4 + x2 ∧ x4 * 4 + x2 < 40) ∧ am_ok (x4 * 10) ∧ am_ok (x4 * 10 + x1) ∧ (0 ≤ x4 * 10 + x1 ∧ x4 * 10 + x1 < 100) ∧ am_ok (x3 * h 35 (10 * x4 + x1)) ∧ am_ok (h 36 (4 * x4 + x2) + x3 * h 35 (10 * x4 + x1)) ∧ am_ok (x4 + 1)) ∧ am_x (am_cd 0) 19 (am_qv P) 0 5 [some (.inr (.inr 33)), some (.inl x1), some (.inl x2), some (.inl x3), some (.inl (x4 + 1))] [] (am_up h 36 (4 * x4 + x2) (h 36 (4 * x4 + x2) + x3 * h 35 (10 * x4 + x1)))))) : am_x (am_cd 0) 19 (am_qv P) 0 5 [some (.inr (.inr 33)), some (.inl x1), some (.inl x2), some (.inl x3), some (.inl x4)] [] h := by
  refine x_iload (q19c0 4 rfl) rfl ?_
  refine x_aload_n (q19c0 5 rfl) rfl ?_
  refine x_getf (q19c0 6 rfl) fd33_9 (rfl) ?_
  refine x_icmp_ge (q19c0 7 rfl) (fun c1 => ?_) (fun c1 => ?_)
  · replace H := H.1 c1
    exact x_ret (q19c0 31 rfl) H
  · replace H := H.2 c1
    obtain ⟨⟨s2, s3, s4, s5, s6, s7, s8, s9, s10⟩, H⟩ := H
    refine x_aload_n (q19c0 8 rfl) rfl ?_
    refine x_getr (q19c0 9 rfl) fd33_5 ?_
    refine x_iload (q19c0 10 rfl) rfl ?_
    refine x_iconst (q19c0 11 rfl) ?_
    refine x_imul (q19c0 12 rfl) s2 ?_
    refine x_iload_n (q19c0 13 rfl) rfl ?_
    refine x_iadd (q19c0 14 rfl) s3 ?_
    refine x_dup2 (q19c0 15 rfl) ⟨trivial, trivial⟩ ?_
    refine x_iaload (q19c0 16 rfl) (al36 _) rfl (ag_l (j1 := 4 * x4 + x2) rfl (by omega) (rfl)) s4 ?_
    refine x_iload_n (q19c0 17 rfl) rfl ?_
    refine x_aload_n (q19c0 18 rfl) rfl ?_
    refine x_getr (q19c0 19 rfl) fd33_4 ?_
    refine x_iload (q19c0 20 rfl) rfl ?_
    refine x_bipush (q19c0 21 rfl) ?_
    refine x_imul (q19c0 22 rfl) s5 ?_
    refine x_iload_n (q19c0 23 rfl) rfl ?_
    refine x_iadd (q19c0 24 rfl) s6 ?_
    refine x_iaload (q19c0 25 rfl) (al35 _) rfl (ag_l (j1 := 10 * x4 + x1) rfl (by omega) (rfl)) s7 ?_
    refine x_imul (q19c0 26 rfl) s8 ?_
    refine x_iadd (q19c0 27 rfl) s9 ?_
    refine x_iastore (q19c0 28 rfl) (al36 _) rfl (Nat.le_of_ble_eq_true rfl) s4 (j := 4 * x4 + x2) (by omega) ?_
    refine x_iinc (q19c0 29 rfl) rfl ⟨Nat.le_of_ble_eq_true rfl, trivial⟩ s10 ?_
    refine x_goto (q19c0 30 rfl) ?_
    exact H
theorem e_Dialects_costOf {h : am_H} {x1 : Int} {x2 : Int} {x3 : Int} {r1 : Int} (hr1 : h 36 (4 * x1 + x2) = r1) {P : Int → am_H → Prop} (H : (am_ok (x1 * 4) ∧ am_ok (x1 * 4 + x2) ∧ (0 ≤ x1 * 4 + x2 ∧ x1 * 4 + x2 < 40)) ∧ ((x2 ≠ x3 → ((am_ok (r1 + 0)) ∧ P (r1 + 0) h)) ∧ (x2 = x3 → ((am_ok (r1 + 5)) ∧ P (r1 + 5) h)))) : ∃ a h1, am_cd 1 20 [.inr (.inr 33), .inl x1, .inl x2, .inl x3] h (some (.inl a)) h1 ∧ P a h1 := by
  refine am_outi (d := 0) (ls := [some (.inr (.inr 33)), some (.inl x1), some (.inl x2), some (.inl x3)]) rfl ab20 ml20 (Nat.le_of_ble_eq_true rfl) np20 rfl ?_
  obtain ⟨⟨s1, s2, s3⟩, H⟩ := H
  refine x_aload_n (q20c0 0 rfl) rfl ?_
  refine x_getr (q20c0 1 rfl) fd33_5 ?_
  refine x_iload_n (q20c0 2 rfl) rfl ?_
  refine x_iconst (q20c0 3 rfl) ?_
  refine x_imul (q20c0 4 rfl) s1 ?_
  refine x_iload_n (q20c0 5 rfl) rfl ?_
  refine x_iadd (q20c0 6 rfl) s2 ?_
  refine x_iaload (q20c0 7 rfl) (al36 _) rfl (ag_l (j1 := 4 * x1 + x2) rfl (by omega) (hr1)) s3 ?_
  refine x_iload_n (q20c0 8 rfl) rfl ?_
  refine x_iload_n (q20c0 9 rfl) rfl ?_
  refine x_icmp_ne (q20c0 10 rfl) (fun c4 => ?_) (fun c4 => ?_)
  · replace H := H.1 c4
    obtain ⟨s5, H⟩ := H
    refine x_iconst (q20c0 13 rfl) ?_
    refine x_iadd (q20c0 14 rfl) s5 ?_
    exact x_ireti (q20c0 15 rfl) zb20 H
  · replace H := H.2 c4
    obtain ⟨s6, H⟩ := H
    refine x_iconst (q20c0 11 rfl) ?_
    refine x_goto (q20c0 12 rfl) ?_
    refine x_iadd (q20c0 14 rfl) s6 ?_
    exact x_ireti (q20c0 15 rfl) zb20 H
theorem e_Dialects_leastSum {h : am_H}  {r1 : Int} (hr1 : h 33 8 = r1) {P : Int → am_H → Prop} (H : P r1 h) : ∃ a h1, am_cd 1 21 [.inr (.inr 33)] h (some (.inl a)) h1 ∧ P a h1 := by
  refine am_outi (d := 0) (ls := [some (.inr (.inr 33))]) rfl ab21 ml21 (Nat.le_of_ble_eq_true rfl) np21 rfl ?_
  refine x_aload_n (q21c0 0 rfl) rfl ?_
  refine x_getf (q21c0 1 rfl) fd33_8 (hr1) ?_
  exact x_ireti (q21c0 2 rfl) zb21 H
theorem e_Dialects_dialectOf {h : am_H} {x1 : Int} {r1 : Int} (hr1 : h 38 x1 = r1) {P : Int → am_H → Prop} (H : (0 ≤ x1 ∧ x1 < 10) ∧ P r1 h) : ∃ a h1, am_cd 1 22 [.inr (.inr 33), .inl x1] h (some (.inl a)) h1 ∧ P a h1 := by
  refine am_outi (d := 0) (ls := [some (.inr (.inr 33)), some (.inl x1)]) rfl ab22 ml22 (Nat.le_of_ble_eq_true rfl) np22 rfl ?_
  obtain ⟨s1, H⟩ := H
  refine x_aload_n (q22c0 0 rfl) rfl ?_
  refine x_getr (q22c0 1 rfl) fd33_7 ?_
  refine x_iload_n (q22c0 2 rfl) rfl ?_
  refine x_iaload (q22c0 3 rfl) (al38 _) rfl (ag_l rfl rfl (hr1)) s1 ?_
  exact x_ireti (q22c0 4 rfl) zb22 H
theorem e_Forms_size {h : am_H}  {r1 : Int} (hr1 : h 11 0 = r1) {P : Int → am_H → Prop} (H : P r1 h) : ∃ a h1, am_cd 1 23 [.inr (.inr 11)] h (some (.inl a)) h1 ∧ P a h1 := by
  refine am_outi (d := 0) (ls := [some (.inr (.inr 11))]) rfl ab23 ml23 (Nat.le_of_ble_eq_true rfl) np23 rfl ?_
  refine x_aload_n (q23c0 0 rfl) rfl ?_
  refine x_getf (q23c0 1 rfl) fd11_0 (hr1) ?_
  exact x_ireti (q23c0 2 rfl) zb23 H
theorem e_Forms_has {h : am_H} {x1 : Int} {r1 : Int} (hr1 : h 11 0 = r1) {P : Int → am_H → Prop} (H : ((0 ≤ x1 ∧ x1 < r1) → P 1 h) ∧ ((¬(0 ≤ x1 ∧ x1 < r1)) → P 0 h)) : ∃ a h1, am_cd 1 24 [.inr (.inr 11), .inl x1] h (some (.inl a)) h1 ∧ P a h1 := by
  refine am_outi (d := 0) (ls := [some (.inr (.inr 11)), some (.inl x1)]) rfl ab24 ml24 (Nat.le_of_ble_eq_true rfl) np24 rfl ?_
  refine x_iload_n (q24c0 0 rfl) rfl ?_
  refine x_if_lt (q24c0 1 rfl) (fun c1 => ?_) (fun c1 => ?_)
  · refine x_iconst (q24c0 8 rfl) ?_
    exact x_iretz (q24c0 9 rfl) (.inl rfl) (H.2 (by omega))
  · refine x_iload_n (q24c0 2 rfl) rfl ?_
    refine x_aload_n (q24c0 3 rfl) rfl ?_
    refine x_getf (q24c0 4 rfl) fd11_0 (hr1) ?_
    refine x_icmp_ge (q24c0 5 rfl) (fun c2 => ?_) (fun c2 => ?_)
    · refine x_iconst (q24c0 8 rfl) ?_
      exact x_iretz (q24c0 9 rfl) (.inl rfl) (H.2 (by omega))
    · refine x_iconst (q24c0 6 rfl) ?_
      refine x_goto (q24c0 7 rfl) ?_
      exact x_iretz (q24c0 9 rfl) (.inr rfl) (H.1 (by omega))
theorem e_Forms_lengthOf {h : am_H} {x1 : Int} {r1 : Int} (hr1 : h 12 x1 = r1) {P : Int → am_H → Prop} (H : (0 ≤ x1 ∧ x1 < 30) ∧ P r1 h) : ∃ a h1, am_cd 1 25 [.inr (.inr 11), .inl x1] h (some (.inl a)) h1 ∧ P a h1 := by
  refine am_outi (d := 0) (ls := [some (.inr (.inr 11)), some (.inl x1)]) rfl ab25 ml25 (Nat.le_of_ble_eq_true rfl) np25 rfl ?_
  obtain ⟨s1, H⟩ := H
  refine x_aload_n (q25c0 0 rfl) rfl ?_
  refine x_getr (q25c0 1 rfl) fd11_1 ?_
  refine x_iload_n (q25c0 2 rfl) rfl ?_
  refine x_iaload (q25c0 3 rfl) (al12 _) rfl (ag_l rfl rfl (hr1)) s1 ?_
  exact x_ireti (q25c0 4 rfl) zb25 H
theorem e_Forms_soundOf {h : am_H} {x1 : Int} {x2 : Int} {r1 : Int} (hr1 : h 13 (8 * x1 + x2) = r1) {P : Int → am_H → Prop} (H : (am_ok (x1 * 8) ∧ am_ok (x1 * 8 + x2) ∧ (0 ≤ x1 * 8 + x2 ∧ x1 * 8 + x2 < 240)) ∧ P r1 h) : ∃ a h1, am_cd 1 26 [.inr (.inr 11), .inl x1, .inl x2] h (some (.inl a)) h1 ∧ P a h1 := by
  refine am_outi (d := 0) (ls := [some (.inr (.inr 11)), some (.inl x1), some (.inl x2)]) rfl ab26 ml26 (Nat.le_of_ble_eq_true rfl) np26 rfl ?_
  obtain ⟨⟨s1, s2, s3⟩, H⟩ := H
  refine x_aload_n (q26c0 0 rfl) rfl ?_
  refine x_getr (q26c0 1 rfl) fd11_2 ?_
  refine x_iload_n (q26c0 2 rfl) rfl ?_
  refine x_bipush (q26c0 3 rfl) ?_
  refine x_imul (q26c0 4 rfl) s1 ?_
  refine x_iload_n (q26c0 5 rfl) rfl ?_
  refine x_iadd (q26c0 6 rfl) s2 ?_
  refine x_iaload (q26c0 7 rfl) (al13 _) rfl (ag_l (j1 := 8 * x1 + x2) rfl (by omega) (hr1)) s3 ?_
  exact x_ireti (q26c0 8 rfl) zb26 H
theorem e_Forms_read {h : am_H} {x1 : Int} {y2 : Int64} {P : Int → am_H → Prop} (H : (x1 < 1 → P 0 h) ∧ (1 ≤ x1 → ((x1 ≤ 8 → am_x (am_cd 0) 27 (am_qi P) 0 16 [some (.inr (.inr 11)), some (.inl x1), some (.inr (.inl y2)), none, some (.inl 0)] [] h) ∧ (8 < x1 → P 0 h)))) : ∃ a h1, am_cd 1 27 [.inr (.inr 11), .inl x1, .inr (.inl y2)] h (some (.inl a)) h1 ∧ P a h1 := by
  refine am_outi (d := 0) (ls := [some (.inr (.inr 11)), some (.inl x1), some (.inr (.inl y2)), none, none]) rfl ab27 ml27 (Nat.le_of_ble_eq_true rfl) np27 rfl ?_
  refine x_iload_n (q27c0 0 rfl) rfl ?_
  refine x_iconst (q27c0 1 rfl) ?_
  refine x_icmp_lt (q27c0 2 rfl) (fun c1 => ?_) (fun c1 => ?_)
  · replace H := H.1 c1
    refine x_iconst (q27c0 6 rfl) ?_
    exact x_iretz (q27c0 7 rfl) (.inl rfl) H
  · replace H := H.2 c1
    refine x_iload_n (q27c0 3 rfl) rfl ?_
    refine x_bipush (q27c0 4 rfl) ?_
    refine x_icmp_le (q27c0 5 rfl) (fun c2 => ?_) (fun c2 => ?_)
    · replace H := H.1 c2
      refine x_iconst (q27c0 8 rfl) ?_
      refine x_istore (q27c0 9 rfl) ⟨Nat.le_of_ble_eq_true rfl, trivial⟩ ?_
      exact H
    · replace H := H.2 c2
      refine x_iconst (q27c0 6 rfl) ?_
      exact x_iretz (q27c0 7 rfl) (.inl rfl) H
theorem g_Forms_read_16 {h : am_H} {x1 : Int} {y2 : Int64} {x4 : Int} {P : Int → am_H → Prop} (H : (x1 ≤ x4 → P 1 (am_up h 11 3 x1)) ∧ (x4 < x1 → ((am_ok (8 * x4) ∧ (0 ≤ x4 ∧ x4 < 8)) ∧ ((((am_lushr y2 (8 * x4)) &&& (Int64.ofInt 255)).toInt32.toInt < 26 → ((am_ok (x4 + 1)) ∧ am_x (am_cd 0) 27 (am_qi P) 0 16 [some (.inr (.inr 11)), some (.inl x1), some (.inr (.inl y2)), none, some (.inl (x4 + 1))] [] (am_up h 14 x4 ((am_lushr y2 (8 * x4)) &&& (Int64.ofInt 255)).toInt32.toInt))) ∧ (26 ≤ ((am_lushr y2 (8 * x4)) &&& (Int64.ofInt 255)).toInt32.toInt → P 0 (am_up h 14 x4 ((am_lushr y2 (8 * x4)) &&& (Int64.ofInt 255)).toInt32.toInt)))))) : am_x (am_cd 0) 27 (am_qi P) 0 16 [some (.inr (.inr 11)), some (.inl x1), some (.inr (.inl y2)), none, some (.inl x4)] [] h := by
  refine x_iload (q27c0 10 rfl) rfl ?_
  refine x_iload_n (q27c0 11 rfl) rfl ?_
  refine x_icmp_ge (q27c0 12 rfl) (fun c1 => ?_) (fun c1 => ?_)
  · replace H := H.1 c1
    refine x_aload_n (q27c0 35 rfl) rfl ?_
    refine x_iload_n (q27c0 36 rfl) rfl ?_
    refine x_putf (q27c0 37 rfl) fd11_3 ?_
    refine x_iconst (q27c0 38 rfl) ?_
    exact x_iretz (q27c0 39 rfl) (.inr rfl) H
  · replace H := H.2 c1
    obtain ⟨⟨s2, s3⟩, H⟩ := H
    refine x_aload_n (q27c0 13 rfl) rfl ?_
    refine x_getr (q27c0 14 rfl) fd11_4 ?_
    refine x_iload (q27c0 15 rfl) rfl ?_
    refine x_lload_n (q27c0 16 rfl) rfl ?_
    refine x_bipush (q27c0 17 rfl) ?_
    refine x_iload (q27c0 18 rfl) rfl ?_
    refine x_imul (q27c0 19 rfl) s2 ?_
    refine x_lushr (q27c0 20 rfl) ?_
    refine x_ldc2 (q27c0 21 rfl) ?_
    refine x_land (q27c0 22 rfl) ?_
    refine x_l2i (q27c0 23 rfl) ?_
    refine x_iastore (q27c0 24 rfl) (al14 _) rfl (Nat.le_of_ble_eq_true rfl) s3 (j := x4) rfl ?_
    refine x_aload_n (q27c0 25 rfl) rfl ?_
    refine x_getr (q27c0 26 rfl) fd11_4 ?_
    refine x_iload (q27c0 27 rfl) rfl ?_
    refine x_iaload (q27c0 28 rfl) (al14 _) rfl (ag_l rfl rfl (up_s rfl)) s3 ?_
    refine x_bipush (q27c0 29 rfl) ?_
    refine x_icmp_lt (q27c0 30 rfl) (fun c4 => ?_) (fun c4 => ?_)
    · replace H := H.1 c4
      obtain ⟨s5, H⟩ := H
      refine x_iinc (q27c0 33 rfl) rfl ⟨Nat.le_of_ble_eq_true rfl, trivial⟩ s5 ?_
      refine x_goto (q27c0 34 rfl) ?_
      exact H
    · replace H := H.2 c4
      refine x_iconst (q27c0 31 rfl) ?_
      exact x_iretz (q27c0 32 rfl) (.inl rfl) H
theorem e_Forms_drop {h : am_H} {x1 : Int} {r1 : Int} (hr1 : h 11 0 = r1) {P : am_H → Prop} (H : (am_ok (r1 - x1)) ∧ P (am_up h 11 0 (r1 - x1))) : ∃ h1, am_cd 1 28 [.inr (.inr 11), .inl x1] h none h1 ∧ P h1 := by
  refine am_outv (d := 0) (ls := [some (.inr (.inr 11)), some (.inl x1)]) rfl ab28 ml28 (Nat.le_of_ble_eq_true rfl) np28 rfl ?_
  obtain ⟨s1, H⟩ := H
  refine x_aload_n (q28c0 0 rfl) rfl ?_
  refine x_dup (q28c0 1 rfl) trivial ?_
  refine x_getf (q28c0 2 rfl) fd11_0 (hr1) ?_
  refine x_iload_n (q28c0 3 rfl) rfl ?_
  refine x_isub (q28c0 4 rfl) s1 ?_
  refine x_putf (q28c0 5 rfl) fd11_0 ?_
  exact x_ret (q28c0 6 rfl) H
theorem e_Forms_costOf {h : am_H} {x0 : Int} {x1 : Int} {P : Int → am_H → Prop} (H : (x0 ≠ x1 → (((0 ≤ x0) ∧ (0 ≤ x1)) ∧ ((x0 / 5 ≠ x1 / 5 → P 3 h) ∧ (x0 / 5 = x1 / 5 → P 1 h)))) ∧ (x0 = x1 → P 0 h)) : ∃ a h1, am_cd 1 29 [.inl x0, .inl x1] h (some (.inl a)) h1 ∧ P a h1 := by
  refine am_outi (d := 0) (ls := [some (.inl x0), some (.inl x1)]) rfl ab29 ml29 (Nat.le_of_ble_eq_true rfl) np29 rfl ?_
  refine x_iload_n (q29c0 0 rfl) rfl ?_
  refine x_iload_n (q29c0 1 rfl) rfl ?_
  refine x_icmp_ne (q29c0 2 rfl) (fun c1 => ?_) (fun c1 => ?_)
  · replace H := H.1 c1
    obtain ⟨⟨s2, s3⟩, H⟩ := H
    refine x_iload_n (q29c0 5 rfl) rfl ?_
    refine x_iconst (q29c0 6 rfl) ?_
    refine x_idiv (q29c0 7 rfl) ⟨by decide, s2⟩ ?_
    refine x_iload_n (q29c0 8 rfl) rfl ?_
    refine x_iconst (q29c0 9 rfl) ?_
    refine x_idiv (q29c0 10 rfl) ⟨by decide, s3⟩ ?_
    refine x_icmp_ne (q29c0 11 rfl) (fun c4 => ?_) (fun c4 => ?_)
    · replace H := H.1 c4
      refine x_iconst (q29c0 14 rfl) ?_
      exact x_ireti (q29c0 15 rfl) zb29 H
    · replace H := H.2 c4
      refine x_iconst (q29c0 12 rfl) ?_
      refine x_goto (q29c0 13 rfl) ?_
      exact x_ireti (q29c0 15 rfl) zb29 H
  · replace H := H.2 c1
    refine x_iconst (q29c0 3 rfl) ?_
    exact x_ireti (q29c0 4 rfl) zb29 H
theorem e_History_size {h : am_H}  {r1 : Int} (hr1 : h 51 0 = r1) {P : Int → am_H → Prop} (H : P r1 h) : ∃ a h1, am_cd 1 30 [.inr (.inr 51)] h (some (.inl a)) h1 ∧ P a h1 := by
  refine am_outi (d := 0) (ls := [some (.inr (.inr 51))]) rfl ab30 ml30 (Nat.le_of_ble_eq_true rfl) np30 rfl ?_
  refine x_aload_n (q30c0 0 rfl) rfl ?_
  refine x_getf (q30c0 1 rfl) fd51_0 (hr1) ?_
  exact x_ireti (q30c0 2 rfl) zb30 H
theorem e_History_forgetOldest {h : am_H}  {P : am_H → Prop} (H : (am_ok (h 51 0 - 1) ∧ ((0 : Int) ≤ 1 ∧ (0 : Int) ≤ 0 ∧ (0 : Int) ≤ h 51 0 - 1 ∧ (1 : Int) + (h 51 0 - 1) ≤ 6 ∧ (0 : Int) + (h 51 0 - 1) ≤ 6) ∧ ((0 : Int) ≤ 1 ∧ (0 : Int) ≤ 0 ∧ (0 : Int) ≤ (am_cp (am_up h 51 0 (h 51 0 - 1)) 52 1 52 0 (h 51 0 - 1)) 51 0 ∧ (1 : Int) + (am_cp (am_up h 51 0 (h 51 0 - 1)) 52 1 52 0 (h 51 0 - 1)) 51 0 ≤ 6 ∧ (0 : Int) + (am_cp (am_up h 51 0 (h 51 0 - 1)) 52 1 52 0 (h 51 0 - 1)) 51 0 ≤ 6) ∧ ((0 : Int) ≤ 1 ∧ (0 : Int) ≤ 0 ∧ (0 : Int) ≤ (am_cp (am_cp (am_up h 51 0 (h 51 0 - 1)) 52 1 52 0 (h 51 0 - 1)) 53 1 53 0 ((am_cp (am_up h 51 0 (h 51 0 - 1)) 52 1 52 0 (h 51 0 - 1)) 51 0)) 51 0 ∧ (1 : Int) + (am_cp (am_cp (am_up h 51 0 (h 51 0 - 1)) 52 1 52 0 (h 51 0 - 1)) 53 1 53 0 ((am_cp (am_up h 51 0 (h 51 0 - 1)) 52 1 52 0 (h 51 0 - 1)) 51 0)) 51 0 ≤ 6 ∧ (0 : Int) + (am_cp (am_cp (am_up h 51 0 (h 51 0 - 1)) 52 1 52 0 (h 51 0 - 1)) 53 1 53 0 ((am_cp (am_up h 51 0 (h 51 0 - 1)) 52 1 52 0 (h 51 0 - 1)) 51 0)) 51 0 ≤ 6)) ∧ P (am_cp (am_cp (am_cp (am_up h 51 0 (h 51 0 - 1)) 52 1 52 0 (h 51 0 - 1)) 53 1 53 0 ((am_cp (am_up h 51 0 (h 51 0 - 1)) 52 1 52 0 (h 51 0 - 1)) 51 0)) 54 1 54 0 ((am_cp (am_cp (am_up h 51 0 (h 51 0 - 1)) 52 1 52 0 (h 51 0 - 1)) 53 1 53 0 ((am_cp (am_up h 51 0 (h 51 0 - 1)) 52 1 52 0 (h 51 0 - 1)) 51 0)) 51 0))) : ∃ h1, am_cd 1 31 [.inr (.inr 51)] h none h1 ∧ P h1 := by
  refine am_outv (d := 0) (ls := [some (.inr (.inr 51))]) rfl ab31 ml31 (Nat.le_of_ble_eq_true rfl) np31 rfl ?_
  obtain ⟨⟨s1, s2, s3, s4⟩, H⟩ := H
  refine x_aload_n (q31c0 0 rfl) rfl ?_
  refine x_dup (q31c0 1 rfl) trivial ?_
  refine x_getf (q31c0 2 rfl) fd51_0 (rfl) ?_
  refine x_iconst (q31c0 3 rfl) ?_
  refine x_isub (q31c0 4 rfl) s1 ?_
  refine x_putf (q31c0 5 rfl) fd51_0 ?_
  refine x_aload_n (q31c0 6 rfl) rfl ?_
  refine x_getr (q31c0 7 rfl) fd51_1 ?_
  refine x_iconst (q31c0 8 rfl) ?_
  refine x_aload_n (q31c0 9 rfl) rfl ?_
  refine x_getr (q31c0 10 rfl) fd51_1 ?_
  refine x_iconst (q31c0 11 rfl) ?_
  refine x_aload_n (q31c0 12 rfl) rfl ?_
  refine x_getf (q31c0 13 rfl) fd51_0 (up_s rfl) ?_
  refine x_cpy (q31c0 14 rfl) rfl (al52 _) rfl (al52 _) rfl ⟨(Nat.le_of_ble_eq_true rfl), (Nat.le_of_ble_eq_true rfl)⟩ (Nat.le_of_ble_eq_true rfl) s2 ?_
  refine x_aload_n (q31c0 15 rfl) rfl ?_
  refine x_getr (q31c0 16 rfl) fd51_2 ?_
  refine x_iconst (q31c0 17 rfl) ?_
  refine x_aload_n (q31c0 18 rfl) rfl ?_
  refine x_getr (q31c0 19 rfl) fd51_2 ?_
  refine x_iconst (q31c0 20 rfl) ?_
  refine x_aload_n (q31c0 21 rfl) rfl ?_
  refine x_getf (q31c0 22 rfl) fd51_0 (rfl) ?_
  refine x_cpy (q31c0 23 rfl) rfl (al53 _) rfl (al53 _) rfl ⟨(Nat.le_of_ble_eq_true rfl), (Nat.le_of_ble_eq_true rfl)⟩ (Nat.le_of_ble_eq_true rfl) s3 ?_
  refine x_aload_n (q31c0 24 rfl) rfl ?_
  refine x_getr (q31c0 25 rfl) fd51_3 ?_
  refine x_iconst (q31c0 26 rfl) ?_
  refine x_aload_n (q31c0 27 rfl) rfl ?_
  refine x_getr (q31c0 28 rfl) fd51_3 ?_
  refine x_iconst (q31c0 29 rfl) ?_
  refine x_aload_n (q31c0 30 rfl) rfl ?_
  refine x_getf (q31c0 31 rfl) fd51_0 (rfl) ?_
  refine x_cpy (q31c0 32 rfl) rfl (al54 _) rfl (al54 _) rfl ⟨(Nat.le_of_ble_eq_true rfl), (Nat.le_of_ble_eq_true rfl)⟩ (Nat.le_of_ble_eq_true rfl) s4 ?_
  exact x_ret (q31c0 33 rfl) H
theorem e_History_latestKind {h : am_H}  {r1 r2 : Int} (hr1 : h 51 0 = r1) (hr2 : h 52 ((-1) + r1) = r2) {P : Int → am_H → Prop} (H : (am_ok (r1 - 1) ∧ (0 ≤ r1 - 1 ∧ r1 - 1 < 6)) ∧ P r2 h) : ∃ a h1, am_cd 1 32 [.inr (.inr 51)] h (some (.inl a)) h1 ∧ P a h1 := by
  refine am_outi (d := 0) (ls := [some (.inr (.inr 51))]) rfl ab32 ml32 (Nat.le_of_ble_eq_true rfl) np32 rfl ?_
  obtain ⟨⟨s1, s2⟩, H⟩ := H
  refine x_aload_n (q32c0 0 rfl) rfl ?_
  refine x_getr (q32c0 1 rfl) fd51_1 ?_
  refine x_aload_n (q32c0 2 rfl) rfl ?_
  refine x_getf (q32c0 3 rfl) fd51_0 (hr1) ?_
  refine x_iconst (q32c0 4 rfl) ?_
  refine x_isub (q32c0 5 rfl) s1 ?_
  refine x_iaload (q32c0 6 rfl) (al52 _) rfl (ag_l (j1 := (-1) + r1) rfl (by omega) (hr2)) s2 ?_
  exact x_ireti (q32c0 7 rfl) zb32 H
theorem e_History_latestWhich {h : am_H}  {r1 r2 : Int} (hr1 : h 51 0 = r1) (hr2 : h 53 ((-1) + r1) = r2) {P : Int → am_H → Prop} (H : (am_ok (r1 - 1) ∧ (0 ≤ r1 - 1 ∧ r1 - 1 < 6)) ∧ P r2 h) : ∃ a h1, am_cd 1 33 [.inr (.inr 51)] h (some (.inl a)) h1 ∧ P a h1 := by
  refine am_outi (d := 0) (ls := [some (.inr (.inr 51))]) rfl ab33 ml33 (Nat.le_of_ble_eq_true rfl) np33 rfl ?_
  obtain ⟨⟨s1, s2⟩, H⟩ := H
  refine x_aload_n (q33c0 0 rfl) rfl ?_
  refine x_getr (q33c0 1 rfl) fd51_2 ?_
  refine x_aload_n (q33c0 2 rfl) rfl ?_
  refine x_getf (q33c0 3 rfl) fd51_0 (hr1) ?_
  refine x_iconst (q33c0 4 rfl) ?_
  refine x_isub (q33c0 5 rfl) s1 ?_
  refine x_iaload (q33c0 6 rfl) (al53 _) rfl (ag_l (j1 := (-1) + r1) rfl (by omega) (hr2)) s2 ?_
  exact x_ireti (q33c0 7 rfl) zb33 H
theorem e_History_latestBefore {h : am_H}  {r1 r2 : Int} (hr1 : h 51 0 = r1) (hr2 : h 54 ((-1) + r1) = r2) {P : Int → am_H → Prop} (H : (am_ok (r1 - 1) ∧ (0 ≤ r1 - 1 ∧ r1 - 1 < 6)) ∧ P r2 h) : ∃ a h1, am_cd 1 34 [.inr (.inr 51)] h (some (.inl a)) h1 ∧ P a h1 := by
  refine am_outi (d := 0) (ls := [some (.inr (.inr 51))]) rfl ab34 ml34 (Nat.le_of_ble_eq_true rfl) np34 rfl ?_
  obtain ⟨⟨s1, s2⟩, H⟩ := H
  refine x_aload_n (q34c0 0 rfl) rfl ?_
  refine x_getr (q34c0 1 rfl) fd51_3 ?_
  refine x_aload_n (q34c0 2 rfl) rfl ?_
  refine x_getf (q34c0 3 rfl) fd51_0 (hr1) ?_
  refine x_iconst (q34c0 4 rfl) ?_
  refine x_isub (q34c0 5 rfl) s1 ?_
  refine x_iaload (q34c0 6 rfl) (al54 _) rfl (ag_l (j1 := (-1) + r1) rfl (by omega) (hr2)) s2 ?_
  exact x_ireti (q34c0 7 rfl) zb34 H
theorem e_History_dropLatest {h : am_H}  {r1 : Int} (hr1 : h 51 0 = r1) {P : Int → am_H → Prop} (H : (am_ok (r1 - 1)) ∧ P (r1 - 1) (am_up h 51 0 (r1 - 1))) : ∃ a h1, am_cd 1 35 [.inr (.inr 51)] h (some (.inl a)) h1 ∧ P a h1 := by
  refine am_outi (d := 0) (ls := [some (.inr (.inr 51))]) rfl ab35 ml35 (Nat.le_of_ble_eq_true rfl) np35 rfl ?_
  obtain ⟨s1, H⟩ := H
  refine x_aload_n (q35c0 0 rfl) rfl ?_
  refine x_dup (q35c0 1 rfl) trivial ?_
  refine x_getf (q35c0 2 rfl) fd51_0 (hr1) ?_
  refine x_iconst (q35c0 3 rfl) ?_
  refine x_isub (q35c0 4 rfl) s1 ?_
  refine x_putf (q35c0 5 rfl) fd51_0 ?_
  refine x_aload_n (q35c0 6 rfl) rfl ?_
  refine x_getf (q35c0 7 rfl) fd51_0 (up_s rfl) ?_
  exact x_ireti (q35c0 8 rfl) zb35 H
theorem e_Land_size {h : am_H}  {r1 : Int} (hr1 : h 1 0 = r1) {P : Int → am_H → Prop} (H : P r1 h) : ∃ a h1, am_cd 1 36 [.inr (.inr 1)] h (some (.inl a)) h1 ∧ P a h1 := by
  refine am_outi (d := 0) (ls := [some (.inr (.inr 1))]) rfl ab36 ml36 (Nat.le_of_ble_eq_true rfl) np36 rfl ?_
  refine x_aload_n (q36c0 0 rfl) rfl ?_
  refine x_getf (q36c0 1 rfl) fd1_0 (hr1) ?_
  exact x_ireti (q36c0 2 rfl) zb36 H
theorem e_Land_has {h : am_H} {x1 : Int} {r1 : Int} (hr1 : h 1 0 = r1) {P : Int → am_H → Prop} (H : ((0 ≤ x1 ∧ x1 < r1) → P 1 h) ∧ ((¬(0 ≤ x1 ∧ x1 < r1)) → P 0 h)) : ∃ a h1, am_cd 1 37 [.inr (.inr 1), .inl x1] h (some (.inl a)) h1 ∧ P a h1 := by
  refine am_outi (d := 0) (ls := [some (.inr (.inr 1)), some (.inl x1)]) rfl ab37 ml37 (Nat.le_of_ble_eq_true rfl) np37 rfl ?_
  refine x_iload_n (q37c0 0 rfl) rfl ?_
  refine x_if_lt (q37c0 1 rfl) (fun c1 => ?_) (fun c1 => ?_)
  · refine x_iconst (q37c0 8 rfl) ?_
    exact x_iretz (q37c0 9 rfl) (.inl rfl) (H.2 (by omega))
  · refine x_iload_n (q37c0 2 rfl) rfl ?_
    refine x_aload_n (q37c0 3 rfl) rfl ?_
    refine x_getf (q37c0 4 rfl) fd1_0 (hr1) ?_
    refine x_icmp_ge (q37c0 5 rfl) (fun c2 => ?_) (fun c2 => ?_)
    · refine x_iconst (q37c0 8 rfl) ?_
      exact x_iretz (q37c0 9 rfl) (.inl rfl) (H.2 (by omega))
    · refine x_iconst (q37c0 6 rfl) ?_
      refine x_goto (q37c0 7 rfl) ?_
      exact x_iretz (q37c0 9 rfl) (.inr rfl) (H.1 (by omega))
theorem e_Land_all {h : am_H}  {r1 : Int} (hr1 : h 1 0 = r1) {P : Int → am_H → Prop} (H : (am_ok (am_shl 1 r1 - 1)) ∧ P (am_shl 1 r1 - 1) h) : ∃ a h1, am_cd 1 38 [.inr (.inr 1)] h (some (.inl a)) h1 ∧ P a h1 := by
  refine am_outi (d := 0) (ls := [some (.inr (.inr 1))]) rfl ab38 ml38 (Nat.le_of_ble_eq_true rfl) np38 rfl ?_
  obtain ⟨s1, H⟩ := H
  refine x_iconst (q38c0 0 rfl) ?_
  refine x_aload_n (q38c0 1 rfl) rfl ?_
  refine x_getf (q38c0 2 rfl) fd1_0 (hr1) ?_
  refine x_ishl (q38c0 3 rfl) ?_
  refine x_iconst (q38c0 4 rfl) ?_
  refine x_isub (q38c0 5 rfl) s1 ?_
  exact x_ireti (q38c0 6 rfl) zb38 H
theorem e_Land_settle {h : am_H} {x1 : Int} {x2 : Int} {r1 : Int} (hr1 : h 1 0 = r1) {P : Int → am_H → Prop} (H : ((0 ≤ x1) ∧ (0 ≤ r1 ∧ r1 < 12) ∧ am_ok (r1 + 1)) ∧ P r1 (am_up (am_up (am_up (am_up h 2 r1 (x1 / 100)) 3 r1 (x1 % 100)) 4 r1 x2) 1 0 (r1 + 1))) : ∃ a h1, am_cd 1 39 [.inr (.inr 1), .inl x1, .inl x2] h (some (.inl a)) h1 ∧ P a h1 := by
  refine am_outi (d := 0) (ls := [some (.inr (.inr 1)), some (.inl x1), some (.inl x2)]) rfl ab39 ml39 (Nat.le_of_ble_eq_true rfl) np39 rfl ?_
  obtain ⟨⟨s1, s2, s3⟩, H⟩ := H
  refine x_aload_n (q39c0 0 rfl) rfl ?_
  refine x_getr (q39c0 1 rfl) fd1_1 ?_
  refine x_aload_n (q39c0 2 rfl) rfl ?_
  refine x_getf (q39c0 3 rfl) fd1_0 (hr1) ?_
  refine x_iload_n (q39c0 4 rfl) rfl ?_
  refine x_bipush (q39c0 5 rfl) ?_
  refine x_idiv (q39c0 6 rfl) ⟨by decide, s1⟩ ?_
  refine x_iastore (q39c0 7 rfl) (al2 _) rfl (Nat.le_of_ble_eq_true rfl) s2 (j := r1) rfl ?_
  refine x_aload_n (q39c0 8 rfl) rfl ?_
  refine x_getr (q39c0 9 rfl) fd1_2 ?_
  refine x_aload_n (q39c0 10 rfl) rfl ?_
  refine x_getf (q39c0 11 rfl) fd1_0 (up_c rfl (hr1)) ?_
  refine x_iload_n (q39c0 12 rfl) rfl ?_
  refine x_bipush (q39c0 13 rfl) ?_
  refine x_irem (q39c0 14 rfl) ⟨by decide, s1⟩ ?_
  refine x_iastore (q39c0 15 rfl) (al3 _) rfl (Nat.le_of_ble_eq_true rfl) s2 (j := r1) rfl ?_
  refine x_aload_n (q39c0 16 rfl) rfl ?_
  refine x_getr (q39c0 17 rfl) fd1_3 ?_
  refine x_aload_n (q39c0 18 rfl) rfl ?_
  refine x_getf (q39c0 19 rfl) fd1_0 (up_c rfl (up_c rfl (hr1))) ?_
  refine x_iload_n (q39c0 20 rfl) rfl ?_
  refine x_iastore (q39c0 21 rfl) (al4 _) rfl (Nat.le_of_ble_eq_true rfl) s2 (j := r1) rfl ?_
  refine x_aload_n (q39c0 22 rfl) rfl ?_
  refine x_dup (q39c0 23 rfl) trivial ?_
  refine x_getf (q39c0 24 rfl) fd1_0 (up_c rfl (up_c rfl (up_c rfl (hr1)))) ?_
  refine x_dup_x1 (q39c0 25 rfl) ⟨trivial, trivial⟩ ?_
  refine x_iconst (q39c0 26 rfl) ?_
  refine x_iadd (q39c0 27 rfl) s3 ?_
  refine x_putf (q39c0 28 rfl) fd1_0 ?_
  exact x_ireti (q39c0 29 rfl) zb39 H
theorem e_Land_unsettle {h : am_H}  {r1 : Int} (hr1 : h 1 0 = r1) {P : am_H → Prop} (H : (am_ok (r1 - 1)) ∧ P (am_up h 1 0 (r1 - 1))) : ∃ h1, am_cd 1 40 [.inr (.inr 1)] h none h1 ∧ P h1 := by
  refine am_outv (d := 0) (ls := [some (.inr (.inr 1))]) rfl ab40 ml40 (Nat.le_of_ble_eq_true rfl) np40 rfl ?_
  obtain ⟨s1, H⟩ := H
  refine x_aload_n (q40c0 0 rfl) rfl ?_
  refine x_dup (q40c0 1 rfl) trivial ?_
  refine x_getf (q40c0 2 rfl) fd1_0 (hr1) ?_
  refine x_iconst (q40c0 3 rfl) ?_
  refine x_isub (q40c0 4 rfl) s1 ?_
  refine x_putf (q40c0 5 rfl) fd1_0 ?_
  exact x_ret (q40c0 6 rfl) H
theorem e_Land_xOf {h : am_H} {x1 : Int} {r1 : Int} (hr1 : h 2 x1 = r1) {P : Int → am_H → Prop} (H : (0 ≤ x1 ∧ x1 < 12) ∧ P r1 h) : ∃ a h1, am_cd 1 41 [.inr (.inr 1), .inl x1] h (some (.inl a)) h1 ∧ P a h1 := by
  refine am_outi (d := 0) (ls := [some (.inr (.inr 1)), some (.inl x1)]) rfl ab41 ml41 (Nat.le_of_ble_eq_true rfl) np41 rfl ?_
  obtain ⟨s1, H⟩ := H
  refine x_aload_n (q41c0 0 rfl) rfl ?_
  refine x_getr (q41c0 1 rfl) fd1_1 ?_
  refine x_iload_n (q41c0 2 rfl) rfl ?_
  refine x_iaload (q41c0 3 rfl) (al2 _) rfl (ag_l rfl rfl (hr1)) s1 ?_
  exact x_ireti (q41c0 4 rfl) zb41 H
theorem e_Land_yOf {h : am_H} {x1 : Int} {r1 : Int} (hr1 : h 3 x1 = r1) {P : Int → am_H → Prop} (H : (0 ≤ x1 ∧ x1 < 12) ∧ P r1 h) : ∃ a h1, am_cd 1 42 [.inr (.inr 1), .inl x1] h (some (.inl a)) h1 ∧ P a h1 := by
  refine am_outi (d := 0) (ls := [some (.inr (.inr 1)), some (.inl x1)]) rfl ab42 ml42 (Nat.le_of_ble_eq_true rfl) np42 rfl ?_
  obtain ⟨s1, H⟩ := H
  refine x_aload_n (q42c0 0 rfl) rfl ?_
  refine x_getr (q42c0 1 rfl) fd1_2 ?_
  refine x_iload_n (q42c0 2 rfl) rfl ?_
  refine x_iaload (q42c0 3 rfl) (al3 _) rfl (ag_l rfl rfl (hr1)) s1 ?_
  exact x_ireti (q42c0 4 rfl) zb42 H
theorem e_Land_folkAt {h : am_H} {x1 : Int} {r1 : Int} (hr1 : h 4 x1 = r1) {P : Int → am_H → Prop} (H : (0 ≤ x1 ∧ x1 < 12) ∧ P r1 h) : ∃ a h1, am_cd 1 43 [.inr (.inr 1), .inl x1] h (some (.inl a)) h1 ∧ P a h1 := by
  refine am_outi (d := 0) (ls := [some (.inr (.inr 1)), some (.inl x1)]) rfl ab43 ml43 (Nat.le_of_ble_eq_true rfl) np43 rfl ?_
  obtain ⟨s1, H⟩ := H
  refine x_aload_n (q43c0 0 rfl) rfl ?_
  refine x_getr (q43c0 1 rfl) fd1_3 ?_
  refine x_iload_n (q43c0 2 rfl) rfl ?_
  refine x_iaload (q43c0 3 rfl) (al4 _) rfl (ag_l rfl rfl (hr1)) s1 ?_
  exact x_ireti (q43c0 4 rfl) zb43 H
theorem e_Land_folkOf {h : am_H} {x1 : Int} {P : Int → am_H → Prop} (H : am_x (am_cd 0) 44 (am_qi P) 0 4 [some (.inr (.inr 1)), some (.inl x1), some (.inl 0), some (.inl 0)] [] h) : ∃ a h1, am_cd 1 44 [.inr (.inr 1), .inl x1] h (some (.inl a)) h1 ∧ P a h1 := by
  refine am_outi (d := 0) (ls := [some (.inr (.inr 1)), some (.inl x1), none, none]) rfl ab44 ml44 (Nat.le_of_ble_eq_true rfl) np44 rfl ?_
  refine x_iconst (q44c0 0 rfl) ?_
  refine x_istore_n (q44c0 1 rfl) ⟨Nat.le_of_ble_eq_true rfl, trivial⟩ ?_
  refine x_iconst (q44c0 2 rfl) ?_
  refine x_istore_n (q44c0 3 rfl) ⟨Nat.le_of_ble_eq_true rfl, trivial⟩ ?_
  exact H
theorem g_Land_folkOf_4 {h : am_H} {x1 : Int} {x2 : Int} {x3 : Int} {P : Int → am_H → Prop} (H : (h 1 0 ≤ x3 → P x2 h) ∧ (x3 < h 1 0 → ((am_and x1 (am_shl 1 x3) = 0 → ((am_ok (x3 + 1)) ∧ am_x (am_cd 0) 44 (am_qi P) 0 4 [some (.inr (.inr 1)), some (.inl x1), some (.inl x2), some (.inl (x3 + 1))] [] h)) ∧ (am_and x1 (am_shl 1 x3) ≠ 0 → (((0 ≤ x3 ∧ x3 < 12) ∧ am_ok (x2 + h 4 x3) ∧ am_ok (x3 + 1)) ∧ am_x (am_cd 0) 44 (am_qi P) 0 4 [some (.inr (.inr 1)), some (.inl x1), some (.inl (x2 + h 4 x3)), some (.inl (x3 + 1))] [] h))))) : am_x (am_cd 0) 44 (am_qi P) 0 4 [some (.inr (.inr 1)), some (.inl x1), some (.inl x2), some (.inl x3)] [] h := by
  refine x_iload_n (q44c0 4 rfl) rfl ?_
  refine x_aload_n (q44c0 5 rfl) rfl ?_
  refine x_getf (q44c0 6 rfl) fd1_0 (rfl) ?_
  refine x_icmp_ge (q44c0 7 rfl) (fun c1 => ?_) (fun c1 => ?_)
  · replace H := H.1 c1
    refine x_iload_n (q44c0 23 rfl) rfl ?_
    exact x_ireti (q44c0 24 rfl) zb44 H
  · replace H := H.2 c1
    refine x_iload_n (q44c0 8 rfl) rfl ?_
    refine x_iconst (q44c0 9 rfl) ?_
    refine x_iload_n (q44c0 10 rfl) rfl ?_
    refine x_ishl (q44c0 11 rfl) ?_
    refine x_iand (q44c0 12 rfl) ?_
    refine x_if_eq (q44c0 13 rfl) (fun c2 => ?_) (fun c2 => ?_)
    · replace H := H.1 c2
      obtain ⟨s3, H⟩ := H
      refine x_iinc (q44c0 21 rfl) rfl ⟨Nat.le_of_ble_eq_true rfl, trivial⟩ s3 ?_
      refine x_goto (q44c0 22 rfl) ?_
      exact H
    · replace H := H.2 c2
      obtain ⟨⟨s4, s5, s6⟩, H⟩ := H
      refine x_iload_n (q44c0 14 rfl) rfl ?_
      refine x_aload_n (q44c0 15 rfl) rfl ?_
      refine x_getr (q44c0 16 rfl) fd1_3 ?_
      refine x_iload_n (q44c0 17 rfl) rfl ?_
      refine x_iaload (q44c0 18 rfl) (al4 _) rfl (ag_l rfl rfl (rfl)) s4 ?_
      refine x_iadd (q44c0 19 rfl) s5 ?_
      refine x_istore_n (q44c0 20 rfl) ⟨Nat.le_of_ble_eq_true rfl, trivial⟩ ?_
      refine x_iinc (q44c0 21 rfl) rfl ⟨Nat.le_of_ble_eq_true rfl, trivial⟩ s6 ?_
      refine x_goto (q44c0 22 rfl) ?_
      exact H
theorem e_Land_pair {h : am_H} {x1 : Int} {x2 : Int} {P : Int → am_H → Prop} (H : (am_ok (x1 * 12) ∧ am_ok (x1 * 12 + x2)) ∧ P (x1 * 12 + x2) h) : ∃ a h1, am_cd 1 45 [.inr (.inr 1), .inl x1, .inl x2] h (some (.inl a)) h1 ∧ P a h1 := by
  refine am_outi (d := 0) (ls := [some (.inr (.inr 1)), some (.inl x1), some (.inl x2)]) rfl ab45 ml45 (Nat.le_of_ble_eq_true rfl) np45 rfl ?_
  obtain ⟨⟨s1, s2⟩, H⟩ := H
  refine x_iload_n (q45c0 0 rfl) rfl ?_
  refine x_bipush (q45c0 1 rfl) ?_
  refine x_imul (q45c0 2 rfl) s1 ?_
  refine x_iload_n (q45c0 3 rfl) rfl ?_
  refine x_iadd (q45c0 4 rfl) s2 ?_
  exact x_ireti (q45c0 5 rfl) zb45 H
theorem e_Land_firstOf {h : am_H} {x1 : Int} {P : Int → am_H → Prop} (H : (0 ≤ x1) ∧ P (x1 / 12) h) : ∃ a h1, am_cd 1 46 [.inr (.inr 1), .inl x1] h (some (.inl a)) h1 ∧ P a h1 := by
  refine am_outi (d := 0) (ls := [some (.inr (.inr 1)), some (.inl x1)]) rfl ab46 ml46 (Nat.le_of_ble_eq_true rfl) np46 rfl ?_
  obtain ⟨s1, H⟩ := H
  refine x_iload_n (q46c0 0 rfl) rfl ?_
  refine x_bipush (q46c0 1 rfl) ?_
  refine x_idiv (q46c0 2 rfl) ⟨by decide, s1⟩ ?_
  exact x_ireti (q46c0 3 rfl) zb46 H
theorem e_Land_secondOf {h : am_H} {x1 : Int} {P : Int → am_H → Prop} (H : (0 ≤ x1) ∧ P (x1 % 12) h) : ∃ a h1, am_cd 1 47 [.inr (.inr 1), .inl x1] h (some (.inl a)) h1 ∧ P a h1 := by
  refine am_outi (d := 0) (ls := [some (.inr (.inr 1)), some (.inl x1)]) rfl ab47 ml47 (Nat.le_of_ble_eq_true rfl) np47 rfl ?_
  obtain ⟨s1, H⟩ := H
  refine x_iload_n (q47c0 0 rfl) rfl ?_
  refine x_bipush (q47c0 1 rfl) ?_
  refine x_irem (q47c0 2 rfl) ⟨by decide, s1⟩ ?_
  exact x_ireti (q47c0 3 rfl) zb47 H
theorem e_Land_nearest {h : am_H} {x1 : Int} {P : Int → am_H → Prop} (H : am_x (am_cd 0) 48 (am_qi P) 0 8 [some (.inr (.inr 1)), some (.inl x1), some (.inl (-1)), some (.inl 1000000), some (.inl 0)] [] h) : ∃ a h1, am_cd 1 48 [.inr (.inr 1), .inl x1] h (some (.inl a)) h1 ∧ P a h1 := by
  refine am_outi (d := 0) (ls := [some (.inr (.inr 1)), some (.inl x1), none, none, none]) rfl ab48 ml48 (Nat.le_of_ble_eq_true rfl) np48 rfl ?_
  refine x_iconst (q48c0 0 rfl) ?_
  refine x_istore_n (q48c0 1 rfl) ⟨Nat.le_of_ble_eq_true rfl, trivial⟩ ?_
  refine x_ldc (q48c0 2 rfl) ?_
  refine x_istore_n (q48c0 3 rfl) ⟨Nat.le_of_ble_eq_true rfl, trivial⟩ ?_
  refine x_iconst (q48c0 4 rfl) ?_
  refine x_istore (q48c0 5 rfl) ⟨Nat.le_of_ble_eq_true rfl, trivial⟩ ?_
  exact H
theorem g_Land_nearest_8 {h : am_H} {x1 : Int} {x2 : Int} {x3 : Int} {x4 : Int} {P : Int → am_H → Prop} (H : (h 1 0 ≤ x4 → P x2 h) ∧ (x4 < h 1 0 → ((am_and x1 (am_shl 1 x4) = 0 → ((am_ok (x4 + 1)) ∧ am_x (am_cd 0) 48 (am_qi P) 0 8 [some (.inr (.inr 1)), some (.inl x1), some (.inl x2), some (.inl x3), some (.inl (x4 + 1))] [] h)) ∧ (am_and x1 (am_shl 1 x4) ≠ 0 → ((0 ≤ x4 ∧ x4 < 12) ∧ ((x3 ≤ h 6 x4 → ((am_ok (x4 + 1)) ∧ am_x (am_cd 0) 48 (am_qi P) 0 8 [some (.inr (.inr 1)), some (.inl x1), some (.inl x2), some (.inl x3), some (.inl (x4 + 1))] [] h)) ∧ (h 6 x4 < x3 → ((am_ok (x4 + 1)) ∧ am_x (am_cd 0) 48 (am_qi P) 0 8 [some (.inr (.inr 1)), some (.inl x1), some (.inl x4), some (.inl (h 6 x4)), some (.inl (x4 + 1))] [] h)))))))) : am_x (am_cd 0) 48 (am_qi P) 0 8 [some (.inr (.inr 1)), some (.inl x1), some (.inl x2), some (.inl x3), some (.inl x4)] [] h := by
  refine x_iload (q48c0 6 rfl) rfl ?_
  refine x_aload_n (q48c0 7 rfl) rfl ?_
  refine x_getf (q48c0 8 rfl) fd1_0 (rfl) ?_
  refine x_icmp_ge (q48c0 9 rfl) (fun c1 => ?_) (fun c1 => ?_)
  · replace H := H.1 c1
    refine x_iload_n (q48c0 31 rfl) rfl ?_
    exact x_ireti (q48c0 32 rfl) zb48 H
  · replace H := H.2 c1
    refine x_iload_n (q48c0 10 rfl) rfl ?_
    refine x_iconst (q48c0 11 rfl) ?_
    refine x_iload (q48c0 12 rfl) rfl ?_
    refine x_ishl (q48c0 13 rfl) ?_
    refine x_iand (q48c0 14 rfl) ?_
    refine x_if_eq (q48c0 15 rfl) (fun c2 => ?_) (fun c2 => ?_)
    · replace H := H.1 c2
      obtain ⟨s3, H⟩ := H
      refine x_iinc (q48c0 29 rfl) rfl ⟨Nat.le_of_ble_eq_true rfl, trivial⟩ s3 ?_
      refine x_goto (q48c0 30 rfl) ?_
      exact H
    · replace H := H.2 c2
      obtain ⟨s4, H⟩ := H
      refine x_aload_n (q48c0 16 rfl) rfl ?_
      refine x_getr (q48c0 17 rfl) fd1_5 ?_
      refine x_iload (q48c0 18 rfl) rfl ?_
      refine x_iaload (q48c0 19 rfl) (al6 _) rfl (ag_l rfl rfl (rfl)) s4 ?_
      refine x_iload_n (q48c0 20 rfl) rfl ?_
      refine x_icmp_ge (q48c0 21 rfl) (fun c5 => ?_) (fun c5 => ?_)
      · replace H := H.1 c5
        obtain ⟨s6, H⟩ := H
        refine x_iinc (q48c0 29 rfl) rfl ⟨Nat.le_of_ble_eq_true rfl, trivial⟩ s6 ?_
        refine x_goto (q48c0 30 rfl) ?_
        exact H
      · replace H := H.2 c5
        obtain ⟨s7, H⟩ := H
        refine x_iload (q48c0 22 rfl) rfl ?_
        refine x_istore_n (q48c0 23 rfl) ⟨Nat.le_of_ble_eq_true rfl, trivial⟩ ?_
        refine x_aload_n (q48c0 24 rfl) rfl ?_
        refine x_getr (q48c0 25 rfl) fd1_5 ?_
        refine x_iload (q48c0 26 rfl) rfl ?_
        refine x_iaload (q48c0 27 rfl) (al6 _) rfl (ag_l rfl rfl (rfl)) s4 ?_
        refine x_istore_n (q48c0 28 rfl) ⟨Nat.le_of_ble_eq_true rfl, trivial⟩ ?_
        refine x_iinc (q48c0 29 rfl) rfl ⟨Nat.le_of_ble_eq_true rfl, trivial⟩ s7 ?_
        refine x_goto (q48c0 30 rfl) ?_
        exact H
theorem e_Land_walkTo {h : am_H} {x1 : Int} {r1 : Int} (hr1 : h 6 x1 = r1) {P : Int → am_H → Prop} (H : (0 ≤ x1 ∧ x1 < 12) ∧ P r1 h) : ∃ a h1, am_cd 1 49 [.inr (.inr 1), .inl x1] h (some (.inl a)) h1 ∧ P a h1 := by
  refine am_outi (d := 0) (ls := [some (.inr (.inr 1)), some (.inl x1)]) rfl ab49 ml49 (Nat.le_of_ble_eq_true rfl) np49 rfl ?_
  obtain ⟨s1, H⟩ := H
  refine x_aload_n (q49c0 0 rfl) rfl ?_
  refine x_getr (q49c0 1 rfl) fd1_5 ?_
  refine x_iload_n (q49c0 2 rfl) rfl ?_
  refine x_iaload (q49c0 3 rfl) (al6 _) rfl (ag_l rfl rfl (hr1)) s1 ?_
  exact x_ireti (q49c0 4 rfl) zb49 H
theorem e_Land_reaches {h : am_H} {x1 : Int} {r1 : Int} (hr1 : h 6 x1 = r1) {P : Int → am_H → Prop} (H : (0 ≤ x1 ∧ x1 < 12) ∧ ((r1 < 1000000 → P 1 h) ∧ (1000000 ≤ r1 → P 0 h))) : ∃ a h1, am_cd 1 50 [.inr (.inr 1), .inl x1] h (some (.inl a)) h1 ∧ P a h1 := by
  refine am_outi (d := 0) (ls := [some (.inr (.inr 1)), some (.inl x1)]) rfl ab50 ml50 (Nat.le_of_ble_eq_true rfl) np50 rfl ?_
  obtain ⟨z0, H⟩ := H
  have s1 := z0
  refine x_aload_n (q50c0 0 rfl) rfl ?_
  refine x_getr (q50c0 1 rfl) fd1_5 ?_
  refine x_iload_n (q50c0 2 rfl) rfl ?_
  refine x_iaload (q50c0 3 rfl) (al6 _) rfl (ag_l rfl rfl (hr1)) s1 ?_
  refine x_ldc (q50c0 4 rfl) ?_
  refine x_icmp_ge (q50c0 5 rfl) (fun c2 => ?_) (fun c2 => ?_)
  · refine x_iconst (q50c0 8 rfl) ?_
    exact x_iretz (q50c0 9 rfl) (.inl rfl) (H.2 (by omega))
  · refine x_iconst (q50c0 6 rfl) ?_
    refine x_goto (q50c0 7 rfl) ?_
    exact x_iretz (q50c0 9 rfl) (.inr rfl) (H.1 (by omega))
theorem e_Sheets_isSheet {h : am_H} {x0 : Int} {P : Int → am_H → Prop} (H : ((0 ≤ x0 ∧ x0 < 4) → P 1 h) ∧ ((¬(0 ≤ x0 ∧ x0 < 4)) → P 0 h)) : ∃ a h1, am_cd 1 51 [.inl x0] h (some (.inl a)) h1 ∧ P a h1 := by
  refine am_outi (d := 0) (ls := [some (.inl x0)]) rfl ab51 ml51 (Nat.le_of_ble_eq_true rfl) np51 rfl ?_
  refine x_iload_n (q51c0 0 rfl) rfl ?_
  refine x_if_lt (q51c0 1 rfl) (fun c1 => ?_) (fun c1 => ?_)
  · refine x_iconst (q51c0 7 rfl) ?_
    exact x_iretz (q51c0 8 rfl) (.inl rfl) (H.2 (by omega))
  · refine x_iload_n (q51c0 2 rfl) rfl ?_
    refine x_iconst (q51c0 3 rfl) ?_
    refine x_icmp_ge (q51c0 4 rfl) (fun c2 => ?_) (fun c2 => ?_)
    · refine x_iconst (q51c0 7 rfl) ?_
      exact x_iretz (q51c0 8 rfl) (.inl rfl) (H.2 (by omega))
    · refine x_iconst (q51c0 5 rfl) ?_
      refine x_goto (q51c0 6 rfl) ?_
      exact x_iretz (q51c0 8 rfl) (.inr rfl) (H.1 (by omega))
theorem e_Sheets_isWidth {h : am_H} {x0 : Int} {P : Int → am_H → Prop} (H : ((x0 ≠ 0 ∧ x0 ≠ 8 ∧ x0 ≠ 16 ∧ x0 ≠ 32) → P 0 h) ∧ ((¬(x0 ≠ 0 ∧ x0 ≠ 8 ∧ x0 ≠ 16 ∧ x0 ≠ 32)) → P 1 h)) : ∃ a h1, am_cd 1 52 [.inl x0] h (some (.inl a)) h1 ∧ P a h1 := by
  refine am_outi (d := 0) (ls := [some (.inl x0)]) rfl ab52 ml52 (Nat.le_of_ble_eq_true rfl) np52 rfl ?_
  refine x_iload_n (q52c0 0 rfl) rfl ?_
  refine x_if_eq (q52c0 1 rfl) (fun c1 => ?_) (fun c1 => ?_)
  · refine x_iconst (q52c0 11 rfl) ?_
    refine x_goto (q52c0 12 rfl) ?_
    exact x_iretz (q52c0 14 rfl) (.inr rfl) (H.2 (by omega))
  · refine x_iload_n (q52c0 2 rfl) rfl ?_
    refine x_bipush (q52c0 3 rfl) ?_
    refine x_icmp_eq (q52c0 4 rfl) (fun c2 => ?_) (fun c2 => ?_)
    · refine x_iconst (q52c0 11 rfl) ?_
      refine x_goto (q52c0 12 rfl) ?_
      exact x_iretz (q52c0 14 rfl) (.inr rfl) (H.2 (by omega))
    · refine x_iload_n (q52c0 5 rfl) rfl ?_
      refine x_bipush (q52c0 6 rfl) ?_
      refine x_icmp_eq (q52c0 7 rfl) (fun c3 => ?_) (fun c3 => ?_)
      · refine x_iconst (q52c0 11 rfl) ?_
        refine x_goto (q52c0 12 rfl) ?_
        exact x_iretz (q52c0 14 rfl) (.inr rfl) (H.2 (by omega))
      · refine x_iload_n (q52c0 8 rfl) rfl ?_
        refine x_bipush (q52c0 9 rfl) ?_
        refine x_icmp_ne (q52c0 10 rfl) (fun c4 => ?_) (fun c4 => ?_)
        · refine x_iconst (q52c0 13 rfl) ?_
          exact x_iretz (q52c0 14 rfl) (.inl rfl) (H.1 (by omega))
        · refine x_iconst (q52c0 11 rfl) ?_
          refine x_goto (q52c0 12 rfl) ?_
          exact x_iretz (q52c0 14 rfl) (.inr rfl) (H.2 (by omega))
theorem e_Sheets_isMissing {h : am_H} {x1 : Int} {r1 : Int} (hr1 : h 48 x1 = r1) {P : Int → am_H → Prop} (H : (0 ≤ x1 ∧ x1 < 4) ∧ ((r1 = 0 → P 1 h) ∧ (r1 ≠ 0 → P 0 h))) : ∃ a h1, am_cd 1 53 [.inr (.inr 47), .inl x1] h (some (.inl a)) h1 ∧ P a h1 := by
  refine am_outi (d := 0) (ls := [some (.inr (.inr 47)), some (.inl x1)]) rfl ab53 ml53 (Nat.le_of_ble_eq_true rfl) np53 rfl ?_
  obtain ⟨z0, H⟩ := H
  have s1 := z0
  refine x_aload_n (q53c0 0 rfl) rfl ?_
  refine x_getr (q53c0 1 rfl) fd47_0 ?_
  refine x_iload_n (q53c0 2 rfl) rfl ?_
  refine x_iaload (q53c0 3 rfl) (al48 _) rfl (ag_l rfl rfl (hr1)) s1 ?_
  refine x_if_ne (q53c0 4 rfl) (fun c2 => ?_) (fun c2 => ?_)
  · refine x_iconst (q53c0 7 rfl) ?_
    exact x_iretz (q53c0 8 rfl) (.inl rfl) (H.2 (by omega))
  · refine x_iconst (q53c0 5 rfl) ?_
    refine x_goto (q53c0 6 rfl) ?_
    exact x_iretz (q53c0 8 rfl) (.inr rfl) (H.1 (by omega))
theorem e_Sheets_widthOf {h : am_H} {x1 : Int} {r1 : Int} (hr1 : h 48 x1 = r1) {P : Int → am_H → Prop} (H : (0 ≤ x1 ∧ x1 < 4) ∧ P r1 h) : ∃ a h1, am_cd 1 54 [.inr (.inr 47), .inl x1] h (some (.inl a)) h1 ∧ P a h1 := by
  refine am_outi (d := 0) (ls := [some (.inr (.inr 47)), some (.inl x1)]) rfl ab54 ml54 (Nat.le_of_ble_eq_true rfl) np54 rfl ?_
  obtain ⟨s1, H⟩ := H
  refine x_aload_n (q54c0 0 rfl) rfl ?_
  refine x_getr (q54c0 1 rfl) fd47_0 ?_
  refine x_iload_n (q54c0 2 rfl) rfl ?_
  refine x_iaload (q54c0 3 rfl) (al48 _) rfl (ag_l rfl rfl (hr1)) s1 ?_
  exact x_ireti (q54c0 4 rfl) zb54 H
theorem e_Sheets_sizeOf {h : am_H} {x1 : Int} {r1 : Int} (hr1 : h 49 x1 = r1) {P : Int → am_H → Prop} (H : (0 ≤ x1 ∧ x1 < 4) ∧ P r1 h) : ∃ a h1, am_cd 1 55 [.inr (.inr 47), .inl x1] h (some (.inl a)) h1 ∧ P a h1 := by
  refine am_outi (d := 0) (ls := [some (.inr (.inr 47)), some (.inl x1)]) rfl ab55 ml55 (Nat.le_of_ble_eq_true rfl) np55 rfl ?_
  obtain ⟨s1, H⟩ := H
  refine x_aload_n (q55c0 0 rfl) rfl ?_
  refine x_getr (q55c0 1 rfl) fd47_1 ?_
  refine x_iload_n (q55c0 2 rfl) rfl ?_
  refine x_iaload (q55c0 3 rfl) (al49 _) rfl (ag_l rfl rfl (hr1)) s1 ?_
  exact x_ireti (q55c0 4 rfl) zb55 H
theorem e_Sheets_write {h : am_H} {x1 : Int} {x2 : Int} {x3 : Int} {P : am_H → Prop} (H : (am_ok (x1 * 20) ∧ am_ok (x1 * 20 + x2) ∧ (0 ≤ x1 ∧ x1 < 4)) ∧ ((h 48 x1 = 8 → ((0 ≤ x1 * 20 + x2 ∧ x1 * 20 + x2 < 80) ∧ P (am_up h 50 (20 * x1 + x2) (Int32.ofInt x3).toInt8.toInt))) ∧ (h 48 x1 ≠ 8 → ((h 48 x1 = 16 → ((0 ≤ x1 * 20 + x2 ∧ x1 * 20 + x2 < 80) ∧ P (am_up h 50 (20 * x1 + x2) (Int32.ofInt x3).toInt16.toInt))) ∧ (h 48 x1 ≠ 16 → ((0 ≤ x1 * 20 + x2 ∧ x1 * 20 + x2 < 80) ∧ P (am_up h 50 (20 * x1 + x2) x3))))))) : ∃ h1, am_cd 1 56 [.inr (.inr 47), .inl x1, .inl x2, .inl x3] h none h1 ∧ P h1 := by
  refine am_outv (d := 0) (ls := [some (.inr (.inr 47)), some (.inl x1), some (.inl x2), some (.inl x3)]) rfl ab56 ml56 (Nat.le_of_ble_eq_true rfl) np56 rfl ?_
  obtain ⟨⟨s1, s2, s3⟩, H⟩ := H
  refine x_aload_n (q56c0 0 rfl) rfl ?_
  refine x_getr (q56c0 1 rfl) fd47_2 ?_
  refine x_iload_n (q56c0 2 rfl) rfl ?_
  refine x_bipush (q56c0 3 rfl) ?_
  refine x_imul (q56c0 4 rfl) s1 ?_
  refine x_iload_n (q56c0 5 rfl) rfl ?_
  refine x_iadd (q56c0 6 rfl) s2 ?_
  refine x_aload_n (q56c0 7 rfl) rfl ?_
  refine x_getr (q56c0 8 rfl) fd47_0 ?_
  refine x_iload_n (q56c0 9 rfl) rfl ?_
  refine x_iaload (q56c0 10 rfl) (al48 _) rfl (ag_l rfl rfl (rfl)) s3 ?_
  refine x_lsw (q56c0 11 rfl) (tg := 54) (ts := [(8, 44), (16, 49)]) rfl rfl ?_
  refine lw_cons (fun c4 => ?_) (fun c4 => ?_)
  · replace H := H.1 c4
    obtain ⟨s5, H⟩ := H
    refine x_iload_n (q56c0 12 rfl) rfl ?_
    refine x_i2b (q56c0 13 rfl) ?_
    refine x_goto (q56c0 14 rfl) ?_
    refine x_iastore (q56c0 19 rfl) (al50 _) rfl (Nat.le_of_ble_eq_true rfl) s5 (j := 20 * x1 + x2) (by omega) ?_
    exact x_ret (q56c0 20 rfl) H
  · replace H := H.2 c4
    refine lw_cons (fun c6 => ?_) (fun c6 => ?_)
    · replace H := H.1 c6
      obtain ⟨s7, H⟩ := H
      refine x_iload_n (q56c0 15 rfl) rfl ?_
      refine x_i2s (q56c0 16 rfl) ?_
      refine x_goto (q56c0 17 rfl) ?_
      refine x_iastore (q56c0 19 rfl) (al50 _) rfl (Nat.le_of_ble_eq_true rfl) s7 (j := 20 * x1 + x2) (by omega) ?_
      exact x_ret (q56c0 20 rfl) H
    · replace H := H.2 c6
      refine lw_nil ?_
      obtain ⟨s8, H⟩ := H
      refine x_iload_n (q56c0 18 rfl) rfl ?_
      refine x_iastore (q56c0 19 rfl) (al50 _) rfl (Nat.le_of_ble_eq_true rfl) s8 (j := 20 * x1 + x2) (by omega) ?_
      exact x_ret (q56c0 20 rfl) H
theorem e_Sheets_read {h : am_H} {x1 : Int} {x2 : Int} {r1 : Int} (hr1 : h 50 (20 * x1 + x2) = r1) {P : Int → am_H → Prop} (H : (am_ok (x1 * 20) ∧ am_ok (x1 * 20 + x2) ∧ (0 ≤ x1 * 20 + x2 ∧ x1 * 20 + x2 < 80)) ∧ P r1 h) : ∃ a h1, am_cd 1 57 [.inr (.inr 47), .inl x1, .inl x2] h (some (.inl a)) h1 ∧ P a h1 := by
  refine am_outi (d := 0) (ls := [some (.inr (.inr 47)), some (.inl x1), some (.inl x2)]) rfl ab57 ml57 (Nat.le_of_ble_eq_true rfl) np57 rfl ?_
  obtain ⟨⟨s1, s2, s3⟩, H⟩ := H
  refine x_aload_n (q57c0 0 rfl) rfl ?_
  refine x_getr (q57c0 1 rfl) fd47_2 ?_
  refine x_iload_n (q57c0 2 rfl) rfl ?_
  refine x_bipush (q57c0 3 rfl) ?_
  refine x_imul (q57c0 4 rfl) s1 ?_
  refine x_iload_n (q57c0 5 rfl) rfl ?_
  refine x_iadd (q57c0 6 rfl) s2 ?_
  refine x_iaload (q57c0 7 rfl) (al50 _) rfl (ag_l (j1 := 20 * x1 + x2) rfl (by omega) (hr1)) s3 ?_
  exact x_ireti (q57c0 8 rfl) zb57 H
theorem e_Sheets_hasPart {h : am_H} {x1 : Int} {x2 : Int} {x3 : Int} {r1 : Int} (hr1 : h 49 x1 = r1) {P : Int → am_H → Prop} (H : (x2 < 0 → P 0 h) ∧ (0 ≤ x2 → ((x3 < 0 → P 0 h) ∧ (0 ≤ x3 → ((0 ≤ x1 ∧ x1 < 4) ∧ ((r1 < x3 → P 0 h) ∧ (x3 ≤ r1 → ((am_ok (r1 - x3)) ∧ ((r1 - x3 < x2 → P 0 h) ∧ (x2 ≤ r1 - x3 → P 1 h)))))))))) : ∃ a h1, am_cd 1 58 [.inr (.inr 47), .inl x1, .inl x2, .inl x3] h (some (.inl a)) h1 ∧ P a h1 := by
  refine am_outi (d := 0) (ls := [some (.inr (.inr 47)), some (.inl x1), some (.inl x2), some (.inl x3)]) rfl ab58 ml58 (Nat.le_of_ble_eq_true rfl) np58 rfl ?_
  refine x_iload_n (q58c0 0 rfl) rfl ?_
  refine x_if_lt (q58c0 1 rfl) (fun c1 => ?_) (fun c1 => ?_)
  · replace H := H.1 c1
    refine x_iconst (q58c0 20 rfl) ?_
    exact x_iretz (q58c0 21 rfl) (.inl rfl) H
  · replace H := H.2 c1
    refine x_iload_n (q58c0 2 rfl) rfl ?_
    refine x_if_lt (q58c0 3 rfl) (fun c2 => ?_) (fun c2 => ?_)
    · replace H := H.1 c2
      refine x_iconst (q58c0 20 rfl) ?_
      exact x_iretz (q58c0 21 rfl) (.inl rfl) H
    · replace H := H.2 c2
      obtain ⟨s3, H⟩ := H
      refine x_iload_n (q58c0 4 rfl) rfl ?_
      refine x_aload_n (q58c0 5 rfl) rfl ?_
      refine x_getr (q58c0 6 rfl) fd47_1 ?_
      refine x_iload_n (q58c0 7 rfl) rfl ?_
      refine x_iaload (q58c0 8 rfl) (al49 _) rfl (ag_l rfl rfl (hr1)) s3 ?_
      refine x_icmp_gt (q58c0 9 rfl) (fun c4 => ?_) (fun c4 => ?_)
      · replace H := H.1 c4
        refine x_iconst (q58c0 20 rfl) ?_
        exact x_iretz (q58c0 21 rfl) (.inl rfl) H
      · replace H := H.2 c4
        obtain ⟨s5, H⟩ := H
        refine x_iload_n (q58c0 10 rfl) rfl ?_
        refine x_aload_n (q58c0 11 rfl) rfl ?_
        refine x_getr (q58c0 12 rfl) fd47_1 ?_
        refine x_iload_n (q58c0 13 rfl) rfl ?_
        refine x_iaload (q58c0 14 rfl) (al49 _) rfl (ag_l rfl rfl (hr1)) s3 ?_
        refine x_iload_n (q58c0 15 rfl) rfl ?_
        refine x_isub (q58c0 16 rfl) s5 ?_
        refine x_icmp_gt (q58c0 17 rfl) (fun c6 => ?_) (fun c6 => ?_)
        · replace H := H.1 c6
          refine x_iconst (q58c0 20 rfl) ?_
          exact x_iretz (q58c0 21 rfl) (.inl rfl) H
        · replace H := H.2 c6
          refine x_iconst (q58c0 18 rfl) ?_
          refine x_goto (q58c0 19 rfl) ?_
          exact x_iretz (q58c0 21 rfl) (.inr rfl) H
theorem e_Sheets_move {h : am_H} {x1 : Int} {x2 : Int} {x3 : Int} {x4 : Int} {x5 : Int} {P : am_H → Prop} (H : (am_ok (x1 * 20) ∧ am_ok (x1 * 20 + x2) ∧ am_ok (x3 * 20) ∧ am_ok (x3 * 20 + x4) ∧ ((0 : Int) ≤ x1 * 20 + x2 ∧ (0 : Int) ≤ x3 * 20 + x4 ∧ (0 : Int) ≤ x5 ∧ (x1 * 20 + x2 : Int) + x5 ≤ 80 ∧ (x3 * 20 + x4 : Int) + x5 ≤ 80)) ∧ P (am_cp h 50 (x1 * 20 + x2) 50 (x3 * 20 + x4) x5)) : ∃ h1, am_cd 1 59 [.inr (.inr 47), .inl x1, .inl x2, .inl x3, .inl x4, .inl x5] h none h1 ∧ P h1 := by
  refine am_outv (d := 0) (ls := [some (.inr (.inr 47)), some (.inl x1), some (.inl x2), some (.inl x3), some (.inl x4), some (.inl x5)]) rfl ab59 ml59 (Nat.le_of_ble_eq_true rfl) np59 rfl ?_
  obtain ⟨⟨s1, s2, s3, s4, s5⟩, H⟩ := H
  refine x_aload_n (q59c0 0 rfl) rfl ?_
  refine x_getr (q59c0 1 rfl) fd47_2 ?_
  refine x_iload_n (q59c0 2 rfl) rfl ?_
  refine x_bipush (q59c0 3 rfl) ?_
  refine x_imul (q59c0 4 rfl) s1 ?_
  refine x_iload_n (q59c0 5 rfl) rfl ?_
  refine x_iadd (q59c0 6 rfl) s2 ?_
  refine x_aload_n (q59c0 7 rfl) rfl ?_
  refine x_getr (q59c0 8 rfl) fd47_2 ?_
  refine x_iload_n (q59c0 9 rfl) rfl ?_
  refine x_bipush (q59c0 10 rfl) ?_
  refine x_imul (q59c0 11 rfl) s3 ?_
  refine x_iload (q59c0 12 rfl) rfl ?_
  refine x_iadd (q59c0 13 rfl) s4 ?_
  refine x_iload (q59c0 14 rfl) rfl ?_
  refine x_cpy (q59c0 15 rfl) rfl (al50 _) rfl (al50 _) rfl ⟨(Nat.le_of_ble_eq_true rfl), (Nat.le_of_ble_eq_true rfl)⟩ (Nat.le_of_ble_eq_true rfl) s5 ?_
  exact x_ret (q59c0 16 rfl) H
theorem e_Texts_isText {h : am_H} {x0 : Int} {P : Int → am_H → Prop} (H : ((0 ≤ x0 ∧ x0 < 4) → P 1 h) ∧ ((¬(0 ≤ x0 ∧ x0 < 4)) → P 0 h)) : ∃ a h1, am_cd 1 60 [.inl x0] h (some (.inl a)) h1 ∧ P a h1 := by
  refine am_outi (d := 0) (ls := [some (.inl x0)]) rfl ab60 ml60 (Nat.le_of_ble_eq_true rfl) np60 rfl ?_
  refine x_iload_n (q60c0 0 rfl) rfl ?_
  refine x_if_lt (q60c0 1 rfl) (fun c1 => ?_) (fun c1 => ?_)
  · refine x_iconst (q60c0 7 rfl) ?_
    exact x_iretz (q60c0 8 rfl) (.inl rfl) (H.2 (by omega))
  · refine x_iload_n (q60c0 2 rfl) rfl ?_
    refine x_iconst (q60c0 3 rfl) ?_
    refine x_icmp_ge (q60c0 4 rfl) (fun c2 => ?_) (fun c2 => ?_)
    · refine x_iconst (q60c0 7 rfl) ?_
      exact x_iretz (q60c0 8 rfl) (.inl rfl) (H.2 (by omega))
    · refine x_iconst (q60c0 5 rfl) ?_
      refine x_goto (q60c0 6 rfl) ?_
      exact x_iretz (q60c0 8 rfl) (.inr rfl) (H.1 (by omega))
theorem e_Texts_hasRoomFor {h : am_H} {x1 : Int} {r1 : Int} (hr1 : h 24 1 = r1) {P : Int → am_H → Prop} (H : (am_ok (r1 + x1)) ∧ ((r1 + x1 ≤ 80 → P 1 h) ∧ (80 < r1 + x1 → P 0 h))) : ∃ a h1, am_cd 1 61 [.inr (.inr 24), .inl x1] h (some (.inl a)) h1 ∧ P a h1 := by
  refine am_outi (d := 0) (ls := [some (.inr (.inr 24)), some (.inl x1)]) rfl ab61 ml61 (Nat.le_of_ble_eq_true rfl) np61 rfl ?_
  obtain ⟨z0, H⟩ := H
  have s1 := z0
  refine x_aload_n (q61c0 0 rfl) rfl ?_
  refine x_getf (q61c0 1 rfl) fd24_1 (hr1) ?_
  refine x_iload_n (q61c0 2 rfl) rfl ?_
  refine x_iadd (q61c0 3 rfl) s1 ?_
  refine x_bipush (q61c0 4 rfl) ?_
  refine x_icmp_gt (q61c0 5 rfl) (fun c2 => ?_) (fun c2 => ?_)
  · refine x_iconst (q61c0 8 rfl) ?_
    exact x_iretz (q61c0 9 rfl) (.inl rfl) (H.2 (by omega))
  · refine x_iconst (q61c0 6 rfl) ?_
    refine x_goto (q61c0 7 rfl) ?_
    exact x_iretz (q61c0 9 rfl) (.inr rfl) (H.1 (by omega))
theorem e_Texts_append {h : am_H} {x1 : Int} {y2 : Int64} {P : Int → am_H → Prop} (H : am_x (am_cd 0) 62 (am_qi P) 0 3 [some (.inr (.inr 24)), some (.inl x1), some (.inr (.inl y2)), none, some (.inl 0)] [] h) : ∃ a h1, am_cd 1 62 [.inr (.inr 24), .inl x1, .inr (.inl y2)] h (some (.inl a)) h1 ∧ P a h1 := by
  refine am_outi (d := 0) (ls := [some (.inr (.inr 24)), some (.inl x1), some (.inr (.inl y2)), none, none]) rfl ab62 ml62 (Nat.le_of_ble_eq_true rfl) np62 rfl ?_
  refine x_iconst (q62c0 0 rfl) ?_
  refine x_istore (q62c0 1 rfl) ⟨Nat.le_of_ble_eq_true rfl, trivial⟩ ?_
  exact H
theorem g_Texts_append_3 {h : am_H} {x1 : Int} {y2 : Int64} {x4 : Int} {P : Int → am_H → Prop} (H : (x1 ≤ x4 → P (h 24 1) h) ∧ (x4 < x1 → ((am_ok (8 * x4) ∧ (0 ≤ h 24 1 ∧ h 24 1 < 80) ∧ am_ok (h 24 1 + 1) ∧ am_ok (x4 + 1)) ∧ am_x (am_cd 0) 62 (am_qi P) 0 3 [some (.inr (.inr 24)), some (.inl x1), some (.inr (.inl y2)), none, some (.inl (x4 + 1))] [] (am_up (am_up h 25 (h 24 1) ((am_lushr y2 (8 * x4)) &&& (Int64.ofInt 255)).toInt32.toInt) 24 1 (h 24 1 + 1))))) : am_x (am_cd 0) 62 (am_qi P) 0 3 [some (.inr (.inr 24)), some (.inl x1), some (.inr (.inl y2)), none, some (.inl x4)] [] h := by
  refine x_iload (q62c0 2 rfl) rfl ?_
  refine x_iload_n (q62c0 3 rfl) rfl ?_
  refine x_icmp_ge (q62c0 4 rfl) (fun c1 => ?_) (fun c1 => ?_)
  · replace H := H.1 c1
    refine x_aload_n (q62c0 26 rfl) rfl ?_
    refine x_getf (q62c0 27 rfl) fd24_1 (rfl) ?_
    exact x_ireti (q62c0 28 rfl) zb62 H
  · replace H := H.2 c1
    obtain ⟨⟨s2, s3, s4, s5⟩, H⟩ := H
    refine x_aload_n (q62c0 5 rfl) rfl ?_
    refine x_getr (q62c0 6 rfl) fd24_2 ?_
    refine x_aload_n (q62c0 7 rfl) rfl ?_
    refine x_getf (q62c0 8 rfl) fd24_1 (rfl) ?_
    refine x_lload_n (q62c0 9 rfl) rfl ?_
    refine x_bipush (q62c0 10 rfl) ?_
    refine x_iload (q62c0 11 rfl) rfl ?_
    refine x_imul (q62c0 12 rfl) s2 ?_
    refine x_lushr (q62c0 13 rfl) ?_
    refine x_ldc2 (q62c0 14 rfl) ?_
    refine x_land (q62c0 15 rfl) ?_
    refine x_l2i (q62c0 16 rfl) ?_
    refine x_iastore (q62c0 17 rfl) (al25 _) rfl (Nat.le_of_ble_eq_true rfl) s3 (j := h 24 1) rfl ?_
    refine x_aload_n (q62c0 18 rfl) rfl ?_
    refine x_dup (q62c0 19 rfl) trivial ?_
    refine x_getf (q62c0 20 rfl) fd24_1 (up_c rfl (rfl)) ?_
    refine x_iconst (q62c0 21 rfl) ?_
    refine x_iadd (q62c0 22 rfl) s4 ?_
    refine x_putf (q62c0 23 rfl) fd24_1 ?_
    refine x_iinc (q62c0 24 rfl) rfl ⟨Nat.le_of_ble_eq_true rfl, trivial⟩ s5 ?_
    refine x_goto (q62c0 25 rfl) ?_
    exact H
theorem e_Texts_isLetter {h : am_H} {x0 : Int} {P : Int → am_H → Prop} (H : ((97 ≤ x0 ∧ x0 ≤ 122) → P 1 h) ∧ ((¬(97 ≤ x0 ∧ x0 ≤ 122)) → P 0 h)) : ∃ a h1, am_cd 1 63 [.inl x0] h (some (.inl a)) h1 ∧ P a h1 := by
  refine am_outi (d := 0) (ls := [some (.inl x0)]) rfl ab63 ml63 (Nat.le_of_ble_eq_true rfl) np63 rfl ?_
  refine x_iload_n (q63c0 0 rfl) rfl ?_
  refine x_bipush (q63c0 1 rfl) ?_
  refine x_icmp_lt (q63c0 2 rfl) (fun c1 => ?_) (fun c1 => ?_)
  · refine x_iconst (q63c0 8 rfl) ?_
    exact x_iretz (q63c0 9 rfl) (.inl rfl) (H.2 (by omega))
  · refine x_iload_n (q63c0 3 rfl) rfl ?_
    refine x_bipush (q63c0 4 rfl) ?_
    refine x_icmp_gt (q63c0 5 rfl) (fun c2 => ?_) (fun c2 => ?_)
    · refine x_iconst (q63c0 8 rfl) ?_
      exact x_iretz (q63c0 9 rfl) (.inl rfl) (H.2 (by omega))
    · refine x_iconst (q63c0 6 rfl) ?_
      refine x_goto (q63c0 7 rfl) ?_
      exact x_iretz (q63c0 9 rfl) (.inr rfl) (H.1 (by omega))
theorem e_Texts_sizeOf {h : am_H} {x1 : Int} {r1 : Int} (hr1 : h 26 x1 = r1) {P : Int → am_H → Prop} (H : (0 ≤ x1 ∧ x1 < 4) ∧ P r1 h) : ∃ a h1, am_cd 1 64 [.inr (.inr 24), .inl x1] h (some (.inl a)) h1 ∧ P a h1 := by
  refine am_outi (d := 0) (ls := [some (.inr (.inr 24)), some (.inl x1)]) rfl ab64 ml64 (Nat.le_of_ble_eq_true rfl) np64 rfl ?_
  obtain ⟨s1, H⟩ := H
  refine x_aload_n (q64c0 0 rfl) rfl ?_
  refine x_getr (q64c0 1 rfl) fd24_3 ?_
  refine x_iload_n (q64c0 2 rfl) rfl ?_
  refine x_iaload (q64c0 3 rfl) (al26 _) rfl (ag_l rfl rfl (hr1)) s1 ?_
  exact x_ireti (q64c0 4 rfl) zb64 H
theorem e_Texts_allows {h : am_H} {x0 : Int} {x1 : Int} {P : Int → am_H → Prop} (H : ((x0 ≠ 27 ∧ x0 ≠ x1) → P 0 h) ∧ ((¬(x0 ≠ 27 ∧ x0 ≠ x1)) → P 1 h)) : ∃ a h1, am_cd 1 65 [.inl x0, .inl x1] h (some (.inl a)) h1 ∧ P a h1 := by
  refine am_outi (d := 0) (ls := [some (.inl x0), some (.inl x1)]) rfl ab65 ml65 (Nat.le_of_ble_eq_true rfl) np65 rfl ?_
  refine x_iload_n (q65c0 0 rfl) rfl ?_
  refine x_bipush (q65c0 1 rfl) ?_
  refine x_icmp_eq (q65c0 2 rfl) (fun c1 => ?_) (fun c1 => ?_)
  · refine x_iconst (q65c0 6 rfl) ?_
    refine x_goto (q65c0 7 rfl) ?_
    exact x_iretz (q65c0 9 rfl) (.inr rfl) (H.2 (by omega))
  · refine x_iload_n (q65c0 3 rfl) rfl ?_
    refine x_iload_n (q65c0 4 rfl) rfl ?_
    refine x_icmp_ne (q65c0 5 rfl) (fun c2 => ?_) (fun c2 => ?_)
    · refine x_iconst (q65c0 8 rfl) ?_
      exact x_iretz (q65c0 9 rfl) (.inl rfl) (H.1 (by omega))
    · refine x_iconst (q65c0 6 rfl) ?_
      refine x_goto (q65c0 7 rfl) ?_
      exact x_iretz (q65c0 9 rfl) (.inr rfl) (H.2 (by omega))
theorem e_Texts_turnedSound {h : am_H} {x1 : Int} {r1 : Int} (hr1 : h 31 x1 = r1) {P : Int → am_H → Prop} (H : (0 ≤ x1 ∧ x1 < 8) ∧ P r1 h) : ∃ a h1, am_cd 1 66 [.inr (.inr 24), .inl x1] h (some (.inl a)) h1 ∧ P a h1 := by
  refine am_outi (d := 0) (ls := [some (.inr (.inr 24)), some (.inl x1)]) rfl ab66 ml66 (Nat.le_of_ble_eq_true rfl) np66 rfl ?_
  obtain ⟨s1, H⟩ := H
  refine x_aload_n (q66c0 0 rfl) rfl ?_
  refine x_getr (q66c0 1 rfl) fd24_9 ?_
  refine x_iload_n (q66c0 2 rfl) rfl ?_
  refine x_iaload (q66c0 3 rfl) (al31 _) rfl (ag_l rfl rfl (hr1)) s1 ?_
  exact x_ireti (q66c0 4 rfl) zb66 H
theorem e_Tour_sum {h : am_H}  {r1 : Int} (hr1 : h 39 6 = r1) {P : Int → am_H → Prop} (H : P r1 h) : ∃ a h1, am_cd 1 67 [.inr (.inr 39)] h (some (.inl a)) h1 ∧ P a h1 := by
  refine am_outi (d := 0) (ls := [some (.inr (.inr 39))]) rfl ab67 ml67 (Nat.le_of_ble_eq_true rfl) np67 rfl ?_
  refine x_aload_n (q67c0 0 rfl) rfl ?_
  refine x_getf (q67c0 1 rfl) fd39_6 (hr1) ?_
  exact x_ireti (q67c0 2 rfl) zb67 H
theorem e_Tour_stopAt {h : am_H} {x1 : Int} {r1 : Int} (hr1 : h 43 x1 = r1) {P : Int → am_H → Prop} (H : (0 ≤ x1 ∧ x1 < 7) ∧ P r1 h) : ∃ a h1, am_cd 1 68 [.inr (.inr 39), .inl x1] h (some (.inl a)) h1 ∧ P a h1 := by
  refine am_outi (d := 0) (ls := [some (.inr (.inr 39)), some (.inl x1)]) rfl ab68 ml68 (Nat.le_of_ble_eq_true rfl) np68 rfl ?_
  obtain ⟨s1, H⟩ := H
  refine x_aload_n (q68c0 0 rfl) rfl ?_
  refine x_getr (q68c0 1 rfl) fd39_5 ?_
  refine x_iload_n (q68c0 2 rfl) rfl ?_
  refine x_iaload (q68c0 3 rfl) (al43 _) rfl (ag_l rfl rfl (hr1)) s1 ?_
  exact x_ireti (q68c0 4 rfl) zb68 H
theorem e_Tour_sumBy {h : am_H} {x1 : Int} {x2 : Int} {x3 : Int} {r1 r2 : Int} (hr1 : h 41 (8 * x2 + x3) = r1) (hr2 : h 42 (7 * am_or x1 (am_shl 1 x3) + x3) = r2) {P : Int → am_H → Prop} (H : (am_ok (x2 * 8) ∧ am_ok (x2 * 8 + x3) ∧ (0 ≤ x2 * 8 + x3 ∧ x2 * 8 + x3 < 64) ∧ am_ok (am_or x1 (am_shl 1 x3) * 7) ∧ am_ok (am_or x1 (am_shl 1 x3) * 7 + x3) ∧ (0 ≤ am_or x1 (am_shl 1 x3) * 7 + x3 ∧ am_or x1 (am_shl 1 x3) * 7 + x3 < 896) ∧ am_ok (r1 + r2)) ∧ P (r1 + r2) h) : ∃ a h1, am_cd 1 69 [.inr (.inr 39), .inl x1, .inl x2, .inl x3] h (some (.inl a)) h1 ∧ P a h1 := by
  refine am_outi (d := 0) (ls := [some (.inr (.inr 39)), some (.inl x1), some (.inl x2), some (.inl x3)]) rfl ab69 ml69 (Nat.le_of_ble_eq_true rfl) np69 rfl ?_
  obtain ⟨⟨s1, s2, s3, s4, s5, s6, s7⟩, H⟩ := H
  refine x_aload_n (q69c0 0 rfl) rfl ?_
  refine x_getr (q69c0 1 rfl) fd39_3 ?_
  refine x_iload_n (q69c0 2 rfl) rfl ?_
  refine x_bipush (q69c0 3 rfl) ?_
  refine x_imul (q69c0 4 rfl) s1 ?_
  refine x_iload_n (q69c0 5 rfl) rfl ?_
  refine x_iadd (q69c0 6 rfl) s2 ?_
  refine x_iaload (q69c0 7 rfl) (al41 _) rfl (ag_l (j1 := 8 * x2 + x3) rfl (by omega) (hr1)) s3 ?_
  refine x_aload_n (q69c0 8 rfl) rfl ?_
  refine x_getr (q69c0 9 rfl) fd39_4 ?_
  refine x_iload_n (q69c0 10 rfl) rfl ?_
  refine x_iconst (q69c0 11 rfl) ?_
  refine x_iload_n (q69c0 12 rfl) rfl ?_
  refine x_ishl (q69c0 13 rfl) ?_
  refine x_ior (q69c0 14 rfl) ?_
  refine x_bipush (q69c0 15 rfl) ?_
  refine x_imul (q69c0 16 rfl) s4 ?_
  refine x_iload_n (q69c0 17 rfl) rfl ?_
  refine x_iadd (q69c0 18 rfl) s5 ?_
  refine x_iaload (q69c0 19 rfl) (al42 _) rfl (ag_l (j1 := 7 * am_or x1 (am_shl 1 x3) + x3) rfl (by omega) (hr2)) s6 ?_
  refine x_iadd (q69c0 20 rfl) s7 ?_
  exact x_ireti (q69c0 21 rfl) zb69 H
theorem e_At_finding {h : am_H} {x1 : Int} {r1 : Int} (hr1 : h 0 13 = r1) {P : Int → am_H → Prop} (H : (am_ok (r1 + 1)) ∧ P x1 (am_up h 0 13 (r1 + 1))) : ∃ a h1, am_cd 1 70 [.inr (.inr 0), .inl x1] h (some (.inl a)) h1 ∧ P a h1 := by
  refine am_outi (d := 0) (ls := [some (.inr (.inr 0)), some (.inl x1)]) rfl ab70 ml70 (Nat.le_of_ble_eq_true rfl) np70 rfl ?_
  obtain ⟨s1, H⟩ := H
  refine x_aload_n (q70c0 0 rfl) rfl ?_
  refine x_dup (q70c0 1 rfl) trivial ?_
  refine x_getf (q70c0 2 rfl) fd0_13 (hr1) ?_
  refine x_iconst (q70c0 3 rfl) ?_
  refine x_iadd (q70c0 4 rfl) s1 ?_
  refine x_putf (q70c0 5 rfl) fd0_13 ?_
  refine x_iload_n (q70c0 6 rfl) rfl ?_
  exact x_ireti (q70c0 7 rfl) zb70 H
theorem e_At_isDay {h : am_H} {x0 : Int} {P : Int → am_H → Prop} (H : ((0 ≤ x0 ∧ x0 ≤ 999) → P 1 h) ∧ ((¬(0 ≤ x0 ∧ x0 ≤ 999)) → P 0 h)) : ∃ a h1, am_cd 1 71 [.inl x0] h (some (.inl a)) h1 ∧ P a h1 := by
  refine am_outi (d := 0) (ls := [some (.inl x0)]) rfl ab71 ml71 (Nat.le_of_ble_eq_true rfl) np71 rfl ?_
  refine x_iload_n (q71c0 0 rfl) rfl ?_
  refine x_if_lt (q71c0 1 rfl) (fun c1 => ?_) (fun c1 => ?_)
  · refine x_iconst (q71c0 7 rfl) ?_
    exact x_iretz (q71c0 8 rfl) (.inl rfl) (H.2 (by omega))
  · refine x_iload_n (q71c0 2 rfl) rfl ?_
    refine x_sipush (q71c0 3 rfl) ?_
    refine x_icmp_gt (q71c0 4 rfl) (fun c2 => ?_) (fun c2 => ?_)
    · refine x_iconst (q71c0 7 rfl) ?_
      exact x_iretz (q71c0 8 rfl) (.inl rfl) (H.2 (by omega))
    · refine x_iconst (q71c0 5 rfl) ?_
      refine x_goto (q71c0 6 rfl) ?_
      exact x_iretz (q71c0 8 rfl) (.inr rfl) (H.1 (by omega))
theorem e_At_isThing {h : am_H} {x0 : Int} {P : Int → am_H → Prop} (H : ((0 ≤ x0 ∧ x0 < 6) → P 1 h) ∧ ((¬(0 ≤ x0 ∧ x0 < 6)) → P 0 h)) : ∃ a h1, am_cd 1 72 [.inl x0] h (some (.inl a)) h1 ∧ P a h1 := by
  refine am_outi (d := 0) (ls := [some (.inl x0)]) rfl ab72 ml72 (Nat.le_of_ble_eq_true rfl) np72 rfl ?_
  refine x_iload_n (q72c0 0 rfl) rfl ?_
  refine x_if_lt (q72c0 1 rfl) (fun c1 => ?_) (fun c1 => ?_)
  · refine x_iconst (q72c0 7 rfl) ?_
    exact x_iretz (q72c0 8 rfl) (.inl rfl) (H.2 (by omega))
  · refine x_iload_n (q72c0 2 rfl) rfl ?_
    refine x_bipush (q72c0 3 rfl) ?_
    refine x_icmp_ge (q72c0 4 rfl) (fun c2 => ?_) (fun c2 => ?_)
    · refine x_iconst (q72c0 7 rfl) ?_
      exact x_iretz (q72c0 8 rfl) (.inl rfl) (H.2 (by omega))
    · refine x_iconst (q72c0 5 rfl) ?_
      refine x_goto (q72c0 6 rfl) ?_
      exact x_iretz (q72c0 8 rfl) (.inr rfl) (H.1 (by omega))
theorem e_Mo_in {h : am_H} {x0 : Int} {x1 : Int} {x2 : Int} {P : Int → am_H → Prop} (H : ((x1 ≤ x0 ∧ x0 ≤ x2) → P 1 h) ∧ ((¬(x1 ≤ x0 ∧ x0 ≤ x2)) → P 0 h)) : ∃ a h1, am_cd 1 73 [.inl x0, .inl x1, .inl x2] h (some (.inl a)) h1 ∧ P a h1 := by
  refine am_outi (d := 0) (ls := [some (.inl x0), some (.inl x1), some (.inl x2)]) rfl ab73 ml73 (Nat.le_of_ble_eq_true rfl) np73 rfl ?_
  refine x_iload_n (q73c0 0 rfl) rfl ?_
  refine x_iload_n (q73c0 1 rfl) rfl ?_
  refine x_icmp_lt (q73c0 2 rfl) (fun c1 => ?_) (fun c1 => ?_)
  · refine x_iconst (q73c0 8 rfl) ?_
    exact x_iretz (q73c0 9 rfl) (.inl rfl) (H.2 (by omega))
  · refine x_iload_n (q73c0 3 rfl) rfl ?_
    refine x_iload_n (q73c0 4 rfl) rfl ?_
    refine x_icmp_gt (q73c0 5 rfl) (fun c2 => ?_) (fun c2 => ?_)
    · refine x_iconst (q73c0 8 rfl) ?_
      exact x_iretz (q73c0 9 rfl) (.inl rfl) (H.2 (by omega))
    · refine x_iconst (q73c0 6 rfl) ?_
      refine x_goto (q73c0 7 rfl) ?_
      exact x_iretz (q73c0 9 rfl) (.inr rfl) (H.1 (by omega))
theorem e_Mo_finds {h : am_H} {x1 : Int} {r1 : Int} (hr1 : h 56 3 = r1) {P : Int → am_H → Prop} (H : (am_ok (r1 + 1)) ∧ P x1 (am_up h 56 3 (r1 + 1))) : ∃ a h1, am_cd 1 74 [.inr (.inr 56), .inl x1] h (some (.inl a)) h1 ∧ P a h1 := by
  refine am_outi (d := 0) (ls := [some (.inr (.inr 56)), some (.inl x1)]) rfl ab74 ml74 (Nat.le_of_ble_eq_true rfl) np74 rfl ?_
  obtain ⟨s1, H⟩ := H
  refine x_aload_n (q74c0 0 rfl) rfl ?_
  refine x_dup (q74c0 1 rfl) trivial ?_
  refine x_getf (q74c0 2 rfl) fd56_3 (hr1) ?_
  refine x_iconst (q74c0 3 rfl) ?_
  refine x_iadd (q74c0 4 rfl) s1 ?_
  refine x_putf (q74c0 5 rfl) fd56_3 ?_
  refine x_iload_n (q74c0 6 rfl) rfl ?_
  exact x_ireti (q74c0 7 rfl) zb74 H
theorem e_Mo_folk {h : am_H} {x1 : Int} {r1 : Int} (hr1 : h 57 (12 + 3 * x1) = r1) {P : Int → am_H → Prop} (H : (am_ok (3 * x1) ∧ am_ok (10 + 3 * x1) ∧ am_ok (10 + 3 * x1 + 2) ∧ (0 ≤ 10 + 3 * x1 + 2 ∧ 10 + 3 * x1 + 2 < 820)) ∧ P r1 h) : ∃ a h1, am_cd 1 75 [.inr (.inr 56), .inl x1] h (some (.inl a)) h1 ∧ P a h1 := by
  refine am_outi (d := 0) (ls := [some (.inr (.inr 56)), some (.inl x1)]) rfl ab75 ml75 (Nat.le_of_ble_eq_true rfl) np75 rfl ?_
  obtain ⟨⟨s1, s2, s3, s4⟩, H⟩ := H
  refine x_aload_n (q75c0 0 rfl) rfl ?_
  refine x_getr (q75c0 1 rfl) fd56_0 ?_
  refine x_bipush (q75c0 2 rfl) ?_
  refine x_iconst (q75c0 3 rfl) ?_
  refine x_iload_n (q75c0 4 rfl) rfl ?_
  refine x_imul (q75c0 5 rfl) s1 ?_
  refine x_iadd (q75c0 6 rfl) s2 ?_
  refine x_iconst (q75c0 7 rfl) ?_
  refine x_iadd (q75c0 8 rfl) s3 ?_
  refine x_iaload (q75c0 9 rfl) (al57 _) rfl (ag_l (j1 := 12 + 3 * x1) rfl (by omega) (hr1)) s4 ?_
  exact x_ireti (q75c0 10 rfl) zb75 H
theorem e_Mo_roadOf {h : am_H} {x1 : Int} {x2 : Int} {r1 : Int} (hr1 : h 57 (46 + 12 * x1 + x2) = r1) {P : Int → am_H → Prop} (H : (am_ok (12 * x1) ∧ am_ok (46 + 12 * x1) ∧ am_ok (46 + 12 * x1 + x2) ∧ (0 ≤ 46 + 12 * x1 + x2 ∧ 46 + 12 * x1 + x2 < 820)) ∧ P r1 h) : ∃ a h1, am_cd 1 76 [.inr (.inr 56), .inl x1, .inl x2] h (some (.inl a)) h1 ∧ P a h1 := by
  refine am_outi (d := 0) (ls := [some (.inr (.inr 56)), some (.inl x1), some (.inl x2)]) rfl ab76 ml76 (Nat.le_of_ble_eq_true rfl) np76 rfl ?_
  obtain ⟨⟨s1, s2, s3, s4⟩, H⟩ := H
  refine x_aload_n (q76c0 0 rfl) rfl ?_
  refine x_getr (q76c0 1 rfl) fd56_0 ?_
  refine x_bipush (q76c0 2 rfl) ?_
  refine x_bipush (q76c0 3 rfl) ?_
  refine x_iload_n (q76c0 4 rfl) rfl ?_
  refine x_imul (q76c0 5 rfl) s1 ?_
  refine x_iadd (q76c0 6 rfl) s2 ?_
  refine x_iload_n (q76c0 7 rfl) rfl ?_
  refine x_iadd (q76c0 8 rfl) s3 ?_
  refine x_iaload (q76c0 9 rfl) (al57 _) rfl (ag_l rfl rfl (hr1)) s4 ?_
  exact x_ireti (q76c0 10 rfl) zb76 H
theorem e_Mo_keep {h : am_H}  {P : am_H → Prop} (H : (h 56 2 ≠ 6 → am_x (am_cd 0) 77 (am_qv P) 0 52 [some (.inr (.inr 56)), some (.inl 0)] [] h) ∧ (h 56 2 = 6 → am_x (am_cd 0) 77 (am_qv P) 0 11 [some (.inr (.inr 56)), some (.inl 0)] [] h)) : ∃ h1, am_cd 1 77 [.inr (.inr 56)] h none h1 ∧ P h1 := by
  refine am_outv (d := 0) (ls := [some (.inr (.inr 56)), none]) rfl ab77 ml77 (Nat.le_of_ble_eq_true rfl) np77 rfl ?_
  refine x_aload_n (q77c0 0 rfl) rfl ?_
  refine x_getf (q77c0 1 rfl) fd56_2 (rfl) ?_
  refine x_bipush (q77c0 2 rfl) ?_
  refine x_icmp_ne (q77c0 3 rfl) (fun c1 => ?_) (fun c1 => ?_)
  · replace H := H.1 c1
    refine x_iconst (q77c0 27 rfl) ?_
    refine x_istore_n (q77c0 28 rfl) ⟨Nat.le_of_ble_eq_true rfl, trivial⟩ ?_
    exact H
  · replace H := H.2 c1
    refine x_iconst (q77c0 4 rfl) ?_
    refine x_istore_n (q77c0 5 rfl) ⟨Nat.le_of_ble_eq_true rfl, trivial⟩ ?_
    exact H
theorem g_Mo_keep_11 {h : am_H} {x1 : Int} {P : am_H → Prop} (H : (4100 ≤ x1 → ((am_ok (h 56 2 - 1)) ∧ am_x (am_cd 0) 77 (am_qv P) 0 52 [some (.inr (.inr 56)), some (.inl 0)] [] (am_up h 56 2 (h 56 2 - 1)))) ∧ (x1 < 4100 → ((am_ok (x1 + 820) ∧ (0 ≤ x1 + 820 ∧ x1 + 820 < 4920) ∧ (0 ≤ x1 ∧ x1 < 4920) ∧ am_ok (x1 + 1)) ∧ am_x (am_cd 0) 77 (am_qv P) 0 11 [some (.inr (.inr 56)), some (.inl (x1 + 1))] [] (am_up h 58 x1 (h 58 (820 + x1)))))) : am_x (am_cd 0) 77 (am_qv P) 0 11 [some (.inr (.inr 56)), some (.inl x1)] [] h := by
  refine x_iload_n (q77c0 6 rfl) rfl ?_
  refine x_sipush (q77c0 7 rfl) ?_
  refine x_icmp_ge (q77c0 8 rfl) (fun c1 => ?_) (fun c1 => ?_)
  · replace H := H.1 c1
    obtain ⟨s2, H⟩ := H
    refine x_aload_n (q77c0 21 rfl) rfl ?_
    refine x_dup (q77c0 22 rfl) trivial ?_
    refine x_getf (q77c0 23 rfl) fd56_2 (rfl) ?_
    refine x_iconst (q77c0 24 rfl) ?_
    refine x_isub (q77c0 25 rfl) s2 ?_
    refine x_putf (q77c0 26 rfl) fd56_2 ?_
    refine x_iconst (q77c0 27 rfl) ?_
    refine x_istore_n (q77c0 28 rfl) ⟨Nat.le_of_ble_eq_true rfl, trivial⟩ ?_
    exact H
  · replace H := H.2 c1
    obtain ⟨⟨s3, s4, s5, s6⟩, H⟩ := H
    refine x_aload_n (q77c0 9 rfl) rfl ?_
    refine x_getr (q77c0 10 rfl) fd56_1 ?_
    refine x_iload_n (q77c0 11 rfl) rfl ?_
    refine x_aload_n (q77c0 12 rfl) rfl ?_
    refine x_getr (q77c0 13 rfl) fd56_1 ?_
    refine x_iload_n (q77c0 14 rfl) rfl ?_
    refine x_sipush (q77c0 15 rfl) ?_
    refine x_iadd (q77c0 16 rfl) s3 ?_
    refine x_iaload (q77c0 17 rfl) (al58 _) rfl (ag_l (j1 := 820 + x1) rfl (by omega) (rfl)) s4 ?_
    refine x_iastore (q77c0 18 rfl) (al58 _) rfl (Nat.le_of_ble_eq_true rfl) s5 (j := x1) rfl ?_
    refine x_iinc (q77c0 19 rfl) rfl ⟨Nat.le_of_ble_eq_true rfl, trivial⟩ s6 ?_
    refine x_goto (q77c0 20 rfl) ?_
    exact H
theorem g_Mo_keep_52 {h : am_H} {x1 : Int} {P : am_H → Prop} (H : (820 ≤ x1 → ((am_ok (h 56 2 + 1)) ∧ P (am_up h 56 2 (h 56 2 + 1)))) ∧ (x1 < 820 → ((am_ok (820 * h 56 2) ∧ am_ok (820 * h 56 2 + x1) ∧ (0 ≤ x1 ∧ x1 < 820) ∧ (0 ≤ 820 * h 56 2 + x1 ∧ 820 * h 56 2 + x1 < 4920) ∧ am_ok (x1 + 1)) ∧ am_x (am_cd 0) 77 (am_qv P) 0 52 [some (.inr (.inr 56)), some (.inl (x1 + 1))] [] (am_up h 58 (820 * h 56 2 + x1) (h 57 x1))))) : am_x (am_cd 0) 77 (am_qv P) 0 52 [some (.inr (.inr 56)), some (.inl x1)] [] h := by
  refine x_iload_n (q77c0 29 rfl) rfl ?_
  refine x_sipush (q77c0 30 rfl) ?_
  refine x_icmp_ge (q77c0 31 rfl) (fun c1 => ?_) (fun c1 => ?_)
  · replace H := H.1 c1
    obtain ⟨s2, H⟩ := H
    refine x_aload_n (q77c0 47 rfl) rfl ?_
    refine x_dup (q77c0 48 rfl) trivial ?_
    refine x_getf (q77c0 49 rfl) fd56_2 (rfl) ?_
    refine x_iconst (q77c0 50 rfl) ?_
    refine x_iadd (q77c0 51 rfl) s2 ?_
    refine x_putf (q77c0 52 rfl) fd56_2 ?_
    exact x_ret (q77c0 53 rfl) H
  · replace H := H.2 c1
    obtain ⟨⟨s3, s4, s5, s6, s7⟩, H⟩ := H
    refine x_aload_n (q77c0 32 rfl) rfl ?_
    refine x_getr (q77c0 33 rfl) fd56_1 ?_
    refine x_sipush (q77c0 34 rfl) ?_
    refine x_aload_n (q77c0 35 rfl) rfl ?_
    refine x_getf (q77c0 36 rfl) fd56_2 (rfl) ?_
    refine x_imul (q77c0 37 rfl) s3 ?_
    refine x_iload_n (q77c0 38 rfl) rfl ?_
    refine x_iadd (q77c0 39 rfl) s4 ?_
    refine x_aload_n (q77c0 40 rfl) rfl ?_
    refine x_getr (q77c0 41 rfl) fd56_0 ?_
    refine x_iload_n (q77c0 42 rfl) rfl ?_
    refine x_iaload (q77c0 43 rfl) (al57 _) rfl (ag_l rfl rfl (rfl)) s5 ?_
    refine x_iastore (q77c0 44 rfl) (al58 _) rfl (Nat.le_of_ble_eq_true rfl) s6 (j := 820 * h 56 2 + x1) rfl ?_
    refine x_iinc (q77c0 45 rfl) rfl ⟨Nat.le_of_ble_eq_true rfl, trivial⟩ s7 ?_
    refine x_goto (q77c0 46 rfl) ?_
    exact H
theorem e_Mo_weightOf {h : am_H} {x1 : Int} {P : Int → am_H → Prop} (H : (am_ok (3 * x1) ∧ am_ok (190 + 3 * x1) ∧ am_ok (190 + 3 * x1 + 2) ∧ (0 ≤ 190 + 3 * x1 + 2 ∧ 190 + 3 * x1 + 2 < 820) ∧ am_ok (190 + 3 * x1 + 1) ∧ (0 ≤ 190 + 3 * x1 + 1 ∧ 190 + 3 * x1 + 1 < 820)) ∧ ((h 57 (191 + 3 * x1) = 0 → P (h 57 (192 + 3 * x1)) h) ∧ (h 57 (191 + 3 * x1) ≠ 0 → ((h 57 (191 + 3 * x1) = 1 → ((am_ok (2 * h 57 (192 + 3 * x1))) ∧ P (2 * h 57 (192 + 3 * x1)) h)) ∧ (h 57 (191 + 3 * x1) ≠ 1 → ((h 57 (191 + 3 * x1) = 2 → (((0 ≤ h 57 (192 + 3 * x1)) ∧ am_ok (h 57 (192 + 3 * x1) / 2 + 1)) ∧ P (h 57 (192 + 3 * x1) / 2 + 1) h)) ∧ (h 57 (191 + 3 * x1) ≠ 2 → ((am_ok (4 * h 57 (192 + 3 * x1)) ∧ am_ok (4 * h 57 (192 + 3 * x1) - 1)) ∧ P (4 * h 57 (192 + 3 * x1) - 1) h)))))))) : ∃ a h1, am_cd 1 78 [.inr (.inr 56), .inl x1] h (some (.inl a)) h1 ∧ P a h1 := by
  refine am_outi (d := 0) (ls := [some (.inr (.inr 56)), some (.inl x1), none]) rfl ab78 ml78 (Nat.le_of_ble_eq_true rfl) np78 rfl ?_
  obtain ⟨⟨s1, s2, s3, s4, s5, s6⟩, H⟩ := H
  refine x_aload_n (q78c0 0 rfl) rfl ?_
  refine x_getr (q78c0 1 rfl) fd56_0 ?_
  refine x_sipush (q78c0 2 rfl) ?_
  refine x_iconst (q78c0 3 rfl) ?_
  refine x_iload_n (q78c0 4 rfl) rfl ?_
  refine x_imul (q78c0 5 rfl) s1 ?_
  refine x_iadd (q78c0 6 rfl) s2 ?_
  refine x_iconst (q78c0 7 rfl) ?_
  refine x_iadd (q78c0 8 rfl) s3 ?_
  refine x_iaload (q78c0 9 rfl) (al57 _) rfl (ag_l (j1 := 192 + 3 * x1) rfl (by omega) (rfl)) s4 ?_
  refine x_istore_n (q78c0 10 rfl) ⟨Nat.le_of_ble_eq_true rfl, trivial⟩ ?_
  refine x_aload_n (q78c0 11 rfl) rfl ?_
  refine x_getr (q78c0 12 rfl) fd56_0 ?_
  refine x_sipush (q78c0 13 rfl) ?_
  refine x_iconst (q78c0 14 rfl) ?_
  refine x_iload_n (q78c0 15 rfl) rfl ?_
  refine x_imul (q78c0 16 rfl) s1 ?_
  refine x_iadd (q78c0 17 rfl) s2 ?_
  refine x_iconst (q78c0 18 rfl) ?_
  refine x_iadd (q78c0 19 rfl) s5 ?_
  refine x_iaload (q78c0 20 rfl) (al57 _) rfl (ag_l (j1 := 191 + 3 * x1) rfl (by omega) (rfl)) s6 ?_
  refine x_tsw (q78c0 21 rfl) (tg := 68) (ts := [56, 58, 62]) rfl rfl ?_
  refine sw_cons (fun c7 => ?_) (fun c7 => ?_)
  · replace H := H.1 c7
    refine x_iload_n (q78c0 22 rfl) rfl ?_
    exact x_ireti (q78c0 23 rfl) zb78 H
  · replace H := H.2 c7
    refine sw_cons (fun c8 => ?_) (fun c8 => ?_)
    · replace H := H.1 c8
      obtain ⟨s9, H⟩ := H
      refine x_iconst (q78c0 24 rfl) ?_
      refine x_iload_n (q78c0 25 rfl) rfl ?_
      refine x_imul (q78c0 26 rfl) s9 ?_
      exact x_ireti (q78c0 27 rfl) zb78 H
    · replace H := H.2 c8
      refine sw_cons (fun c10 => ?_) (fun c10 => ?_)
      · replace H := H.1 c10
        obtain ⟨⟨s11, s12⟩, H⟩ := H
        refine x_iload_n (q78c0 28 rfl) rfl ?_
        refine x_iconst (q78c0 29 rfl) ?_
        refine x_idiv (q78c0 30 rfl) ⟨by decide, s11⟩ ?_
        refine x_iconst (q78c0 31 rfl) ?_
        refine x_iadd (q78c0 32 rfl) s12 ?_
        exact x_ireti (q78c0 33 rfl) zb78 H
      · replace H := H.2 c10
        refine sw_nil ?_
        obtain ⟨⟨s13, s14⟩, H⟩ := H
        refine x_iconst (q78c0 34 rfl) ?_
        refine x_iload_n (q78c0 35 rfl) rfl ?_
        refine x_imul (q78c0 36 rfl) s13 ?_
        refine x_iconst (q78c0 37 rfl) ?_
        refine x_isub (q78c0 38 rfl) s14 ?_
        exact x_ireti (q78c0 39 rfl) zb78 H
theorem e_Mo_soundOf {h : am_H} {x1 : Int} {x2 : Int} {r1 : Int} (hr1 : h 57 (251 + 9 * x1 + x2) = r1) {P : Int → am_H → Prop} (H : (am_ok (9 * x1) ∧ am_ok (250 + 9 * x1) ∧ am_ok (250 + 9 * x1 + 1) ∧ am_ok (250 + 9 * x1 + 1 + x2) ∧ (0 ≤ 250 + 9 * x1 + 1 + x2 ∧ 250 + 9 * x1 + 1 + x2 < 820)) ∧ P r1 h) : ∃ a h1, am_cd 1 79 [.inr (.inr 56), .inl x1, .inl x2] h (some (.inl a)) h1 ∧ P a h1 := by
  refine am_outi (d := 0) (ls := [some (.inr (.inr 56)), some (.inl x1), some (.inl x2)]) rfl ab79 ml79 (Nat.le_of_ble_eq_true rfl) np79 rfl ?_
  obtain ⟨⟨s1, s2, s3, s4, s5⟩, H⟩ := H
  refine x_aload_n (q79c0 0 rfl) rfl ?_
  refine x_getr (q79c0 1 rfl) fd56_0 ?_
  refine x_sipush (q79c0 2 rfl) ?_
  refine x_bipush (q79c0 3 rfl) ?_
  refine x_iload_n (q79c0 4 rfl) rfl ?_
  refine x_imul (q79c0 5 rfl) s1 ?_
  refine x_iadd (q79c0 6 rfl) s2 ?_
  refine x_iconst (q79c0 7 rfl) ?_
  refine x_iadd (q79c0 8 rfl) s3 ?_
  refine x_iload_n (q79c0 9 rfl) rfl ?_
  refine x_iadd (q79c0 10 rfl) s4 ?_
  refine x_iaload (q79c0 11 rfl) (al57 _) rfl (ag_l (j1 := 251 + 9 * x1 + x2) rfl (by omega) (hr1)) s5 ?_
  exact x_ireti (q79c0 12 rfl) zb79 H
theorem e_Mo_sizeOfForm {h : am_H} {x1 : Int} {r1 : Int} (hr1 : h 57 (250 + 9 * x1) = r1) {P : Int → am_H → Prop} (H : (am_ok (9 * x1) ∧ am_ok (250 + 9 * x1) ∧ (0 ≤ 250 + 9 * x1 ∧ 250 + 9 * x1 < 820)) ∧ P r1 h) : ∃ a h1, am_cd 1 80 [.inr (.inr 56), .inl x1] h (some (.inl a)) h1 ∧ P a h1 := by
  refine am_outi (d := 0) (ls := [some (.inr (.inr 56)), some (.inl x1)]) rfl ab80 ml80 (Nat.le_of_ble_eq_true rfl) np80 rfl ?_
  obtain ⟨⟨s1, s2, s3⟩, H⟩ := H
  refine x_aload_n (q80c0 0 rfl) rfl ?_
  refine x_getr (q80c0 1 rfl) fd56_0 ?_
  refine x_sipush (q80c0 2 rfl) ?_
  refine x_bipush (q80c0 3 rfl) ?_
  refine x_iload_n (q80c0 4 rfl) rfl ?_
  refine x_imul (q80c0 5 rfl) s1 ?_
  refine x_iadd (q80c0 6 rfl) s2 ?_
  refine x_iaload (q80c0 7 rfl) (al57 _) rfl (ag_l rfl rfl (hr1)) s3 ?_
  exact x_ireti (q80c0 8 rfl) zb80 H
theorem e_Mo_takes {h : am_H} {x1 : Int} {P : Int → am_H → Prop} (H : (h 56 14 ≤ h 56 15 → P 0 h) ∧ (h 56 15 < h 56 14 → ((0 ≤ h 56 15 ∧ h 56 15 < 80) ∧ ((h 63 (h 56 15) = x1 → ((am_ok (h 56 15 + 1)) ∧ P 1 (am_up h 56 15 (h 56 15 + 1)))) ∧ (h 63 (h 56 15) ≠ x1 → P 0 h))))) : ∃ a h1, am_cd 1 81 [.inr (.inr 56), .inl x1] h (some (.inl a)) h1 ∧ P a h1 := by
  refine am_outi (d := 0) (ls := [some (.inr (.inr 56)), some (.inl x1)]) rfl ab81 ml81 (Nat.le_of_ble_eq_true rfl) np81 rfl ?_
  refine x_aload_n (q81c0 0 rfl) rfl ?_
  refine x_getf (q81c0 1 rfl) fd56_15 (rfl) ?_
  refine x_aload_n (q81c0 2 rfl) rfl ?_
  refine x_getf (q81c0 3 rfl) fd56_14 (rfl) ?_
  refine x_icmp_ge (q81c0 4 rfl) (fun c1 => ?_) (fun c1 => ?_)
  · replace H := H.1 c1
    refine x_iconst (q81c0 12 rfl) ?_
    exact x_iretz (q81c0 13 rfl) (.inl rfl) H
  · replace H := H.2 c1
    obtain ⟨s2, H⟩ := H
    refine x_aload_n (q81c0 5 rfl) rfl ?_
    refine x_getr (q81c0 6 rfl) fd56_8 ?_
    refine x_aload_n (q81c0 7 rfl) rfl ?_
    refine x_getf (q81c0 8 rfl) fd56_15 (rfl) ?_
    refine x_iaload (q81c0 9 rfl) (al63 _) rfl (ag_l rfl rfl (rfl)) s2 ?_
    refine x_iload_n (q81c0 10 rfl) rfl ?_
    refine x_icmp_eq (q81c0 11 rfl) (fun c3 => ?_) (fun c3 => ?_)
    · replace H := H.1 c3
      obtain ⟨s4, H⟩ := H
      refine x_aload_n (q81c0 14 rfl) rfl ?_
      refine x_dup (q81c0 15 rfl) trivial ?_
      refine x_getf (q81c0 16 rfl) fd56_15 (rfl) ?_
      refine x_iconst (q81c0 17 rfl) ?_
      refine x_iadd (q81c0 18 rfl) s4 ?_
      refine x_putf (q81c0 19 rfl) fd56_15 ?_
      refine x_iconst (q81c0 20 rfl) ?_
      exact x_iretz (q81c0 21 rfl) (.inr rfl) H
    · replace H := H.2 c3
      refine x_iconst (q81c0 12 rfl) ?_
      exact x_iretz (q81c0 13 rfl) (.inl rfl) H
theorem e_Mo_alongOf {h : am_H} {x0 : Int} {x1 : Int} {x2 : Int} {P : Int → am_H → Prop} (H : (x0 = 0 → P x1 h) ∧ (x0 ≠ 0 → ((x0 = 1 → P x2 h) ∧ (x0 ≠ 1 → ((x0 = 2 → ((am_ok (x1 + x2)) ∧ P (x1 + x2) h)) ∧ (x0 ≠ 2 → ((x0 = 3 → ((am_ok (x1 - x2)) ∧ P (x1 - x2) h)) ∧ (x0 ≠ 3 → ((x0 = 4 → ((am_ok (2 * x1) ∧ am_ok (2 * x1 + x2)) ∧ P (2 * x1 + x2) h)) ∧ (x0 ≠ 4 → ((x0 = 5 → ((am_ok (2 * x2) ∧ am_ok (x1 + 2 * x2)) ∧ P (x1 + 2 * x2) h)) ∧ (x0 ≠ 5 → ((x0 = 6 → ((am_ok (2 * x1) ∧ am_ok (2 * x1 - x2)) ∧ P (2 * x1 - x2) h)) ∧ (x0 ≠ 6 → ((am_ok (2 * x2) ∧ am_ok (x1 - 2 * x2)) ∧ P (x1 - 2 * x2) h))))))))))))))) : ∃ a h1, am_cd 1 82 [.inl x0, .inl x1, .inl x2] h (some (.inl a)) h1 ∧ P a h1 := by
  refine am_outi (d := 0) (ls := [some (.inl x0), some (.inl x1), some (.inl x2)]) rfl ab82 ml82 (Nat.le_of_ble_eq_true rfl) np82 rfl ?_
  refine x_iload_n (q82c0 0 rfl) rfl ?_
  refine x_tsw (q82c0 1 rfl) (tg := 74) (ts := [44, 46, 48, 52, 56, 62, 68]) rfl rfl ?_
  refine sw_cons (fun c1 => ?_) (fun c1 => ?_)
  · replace H := H.1 c1
    refine x_iload_n (q82c0 2 rfl) rfl ?_
    exact x_ireti (q82c0 3 rfl) zb82 H
  · replace H := H.2 c1
    refine sw_cons (fun c2 => ?_) (fun c2 => ?_)
    · replace H := H.1 c2
      refine x_iload_n (q82c0 4 rfl) rfl ?_
      exact x_ireti (q82c0 5 rfl) zb82 H
    · replace H := H.2 c2
      refine sw_cons (fun c3 => ?_) (fun c3 => ?_)
      · replace H := H.1 c3
        obtain ⟨s4, H⟩ := H
        refine x_iload_n (q82c0 6 rfl) rfl ?_
        refine x_iload_n (q82c0 7 rfl) rfl ?_
        refine x_iadd (q82c0 8 rfl) s4 ?_
        exact x_ireti (q82c0 9 rfl) zb82 H
      · replace H := H.2 c3
        refine sw_cons (fun c5 => ?_) (fun c5 => ?_)
        · replace H := H.1 c5
          obtain ⟨s6, H⟩ := H
          refine x_iload_n (q82c0 10 rfl) rfl ?_
          refine x_iload_n (q82c0 11 rfl) rfl ?_
          refine x_isub (q82c0 12 rfl) s6 ?_
          exact x_ireti (q82c0 13 rfl) zb82 H
        · replace H := H.2 c5
          refine sw_cons (fun c7 => ?_) (fun c7 => ?_)
          · replace H := H.1 c7
            obtain ⟨⟨s8, s9⟩, H⟩ := H
            refine x_iconst (q82c0 14 rfl) ?_
            refine x_iload_n (q82c0 15 rfl) rfl ?_
            refine x_imul (q82c0 16 rfl) s8 ?_
            refine x_iload_n (q82c0 17 rfl) rfl ?_
            refine x_iadd (q82c0 18 rfl) s9 ?_
            exact x_ireti (q82c0 19 rfl) zb82 H
          · replace H := H.2 c7
            refine sw_cons (fun c10 => ?_) (fun c10 => ?_)
            · replace H := H.1 c10
              obtain ⟨⟨s11, s12⟩, H⟩ := H
              refine x_iload_n (q82c0 20 rfl) rfl ?_
              refine x_iconst (q82c0 21 rfl) ?_
              refine x_iload_n (q82c0 22 rfl) rfl ?_
              refine x_imul (q82c0 23 rfl) s11 ?_
              refine x_iadd (q82c0 24 rfl) s12 ?_
              exact x_ireti (q82c0 25 rfl) zb82 H
            · replace H := H.2 c10
              refine sw_cons (fun c13 => ?_) (fun c13 => ?_)
              · replace H := H.1 c13
                obtain ⟨⟨s14, s15⟩, H⟩ := H
                refine x_iconst (q82c0 26 rfl) ?_
                refine x_iload_n (q82c0 27 rfl) rfl ?_
                refine x_imul (q82c0 28 rfl) s14 ?_
                refine x_iload_n (q82c0 29 rfl) rfl ?_
                refine x_isub (q82c0 30 rfl) s15 ?_
                exact x_ireti (q82c0 31 rfl) zb82 H
              · replace H := H.2 c13
                refine sw_nil ?_
                obtain ⟨⟨s16, s17⟩, H⟩ := H
                refine x_iload_n (q82c0 32 rfl) rfl ?_
                refine x_iconst (q82c0 33 rfl) ?_
                refine x_iload_n (q82c0 34 rfl) rfl ?_
                refine x_imul (q82c0 35 rfl) s16 ?_
                refine x_isub (q82c0 36 rfl) s17 ?_
                exact x_ireti (q82c0 37 rfl) zb82 H
theorem e_Mo_part {n : Nat} {h : am_H} {x1 : Int} {x2 : Int} {x3 : Int} {x4 : Int} {P : am_H → Prop} (H : (h 56 21 < 0 → ((x1 ≠ h 57 0 → am_x (am_cd (n + 0)) 83 (am_qv P) 0 66 [some (.inr (.inr 56)), some (.inl x1), some (.inl x2), some (.inl x3), some (.inl x4), some (.inl 0), none, none] [] h) ∧ (x1 = h 57 0 → am_x (am_cd (n + 0)) 83 (am_qv P) 0 36 [some (.inr (.inr 56)), some (.inl x1), none, none, none, some (.inl 0), none, none] [] (am_up h 56 21 x4)))) ∧ (0 ≤ h 56 21 → ((x4 < h 56 21 → ((x1 ≠ h 57 0 → am_x (am_cd (n + 0)) 83 (am_qv P) 0 66 [some (.inr (.inr 56)), some (.inl x1), some (.inl x2), some (.inl x3), some (.inl x4), some (.inl 0), none, none] [] h) ∧ (x1 = h 57 0 → am_x (am_cd (n + 0)) 83 (am_qv P) 0 36 [some (.inr (.inr 56)), some (.inl x1), none, none, none, some (.inl 0), none, none] [] (am_up h 56 21 x4)))) ∧ (h 56 21 ≤ x4 → P h)))) : ∃ h1, am_cd (n + 1) 83 [.inr (.inr 56), .inl x1, .inl x2, .inl x3, .inl x4] h none h1 ∧ P h1 := by
  refine am_outv (d := (n + 0)) (ls := [some (.inr (.inr 56)), some (.inl x1), some (.inl x2), some (.inl x3), some (.inl x4), none, none, none]) rfl ab83 ml83 (Nat.le_of_ble_eq_true rfl) np83 rfl ?_
  refine x_aload_n (q83c0 0 rfl) rfl ?_
  refine x_getf (q83c0 1 rfl) fd56_21 (rfl) ?_
  refine x_if_lt (q83c0 2 rfl) (fun c1 => ?_) (fun c1 => ?_)
  · replace H := H.1 c1
    refine x_iload_n (q83c0 8 rfl) rfl ?_
    refine x_aload_n (q83c0 9 rfl) rfl ?_
    refine x_getr (q83c0 10 rfl) fd56_0 ?_
    refine x_iconst (q83c0 11 rfl) ?_
    refine x_iaload (q83c0 12 rfl) (al57 _) rfl (ag_l rfl rfl (rfl)) (by decide) ?_
    refine x_icmp_ne (q83c0 13 rfl) (fun c2 => ?_) (fun c2 => ?_)
    · replace H := H.1 c2
      refine x_iconst (q83c0 33 rfl) ?_
      refine x_istore (q83c0 34 rfl) ⟨Nat.le_of_ble_eq_true rfl, trivial⟩ ?_
      exact H
    · replace H := H.2 c2
      refine x_aload_n (q83c0 14 rfl) rfl ?_
      refine x_iload (q83c0 15 rfl) rfl ?_
      refine x_putf (q83c0 16 rfl) fd56_21 ?_
      refine x_iconst (q83c0 17 rfl) ?_
      refine x_istore (q83c0 18 rfl) ⟨Nat.le_of_ble_eq_true rfl, trivial⟩ ?_
      exact am_x_weak (ls' := [some (.inr (.inr 56)), some (.inl x1), some (.inl x2), some (.inl x3), some (.inl x4), some (.inl 0), none, none]) (lle_c (lle_c (lle_d trivial (lle_d trivial (lle_d trivial (lle_c (lle_c (lle_c (lle_nil))))))))) H
  · replace H := H.2 c1
    refine x_iload (q83c0 3 rfl) rfl ?_
    refine x_aload_n (q83c0 4 rfl) rfl ?_
    refine x_getf (q83c0 5 rfl) fd56_21 (rfl) ?_
    refine x_icmp_lt (q83c0 6 rfl) (fun c3 => ?_) (fun c3 => ?_)
    · replace H := H.1 c3
      refine x_iload_n (q83c0 8 rfl) rfl ?_
      refine x_aload_n (q83c0 9 rfl) rfl ?_
      refine x_getr (q83c0 10 rfl) fd56_0 ?_
      refine x_iconst (q83c0 11 rfl) ?_
      refine x_iaload (q83c0 12 rfl) (al57 _) rfl (ag_l rfl rfl (rfl)) (by decide) ?_
      refine x_icmp_ne (q83c0 13 rfl) (fun c4 => ?_) (fun c4 => ?_)
      · replace H := H.1 c4
        refine x_iconst (q83c0 33 rfl) ?_
        refine x_istore (q83c0 34 rfl) ⟨Nat.le_of_ble_eq_true rfl, trivial⟩ ?_
        exact H
      · replace H := H.2 c4
        refine x_aload_n (q83c0 14 rfl) rfl ?_
        refine x_iload (q83c0 15 rfl) rfl ?_
        refine x_putf (q83c0 16 rfl) fd56_21 ?_
        refine x_iconst (q83c0 17 rfl) ?_
        refine x_istore (q83c0 18 rfl) ⟨Nat.le_of_ble_eq_true rfl, trivial⟩ ?_
        exact am_x_weak (ls' := [some (.inr (.inr 56)), some (.inl x1), some (.inl x2), some (.inl x3), some (.inl x4), some (.inl 0), none, none]) (lle_c (lle_c (lle_d trivial (lle_d trivial (lle_d trivial (lle_c (lle_c (lle_c (lle_nil))))))))) H
    · replace H := H.2 c3
      exact x_ret (q83c0 7 rfl) H
theorem g_Mo_part_36 {n : Nat} {h : am_H} {x1 : Int} {x5 : Int} {P : am_H → Prop} (H : (x1 ≤ x5 → P h) ∧ (x5 < x1 → (((0 ≤ x5 ∧ x5 < 12) ∧ am_ok (x5 + 1)) ∧ am_x (am_cd (n + 0)) 83 (am_qv P) 0 36 [some (.inr (.inr 56)), some (.inl x1), none, none, none, some (.inl (x5 + 1)), none, none] [] (am_up h 72 x5 (h 71 x5))))) : am_x (am_cd (n + 0)) 83 (am_qv P) 0 36 [some (.inr (.inr 56)), some (.inl x1), none, none, none, some (.inl x5), none, none] [] h := by
  refine x_iload (q83c0 19 rfl) rfl ?_
  refine x_iload_n (q83c0 20 rfl) rfl ?_
  refine x_icmp_ge (q83c0 21 rfl) (fun c1 => ?_) (fun c1 => ?_)
  · replace H := H.1 c1
    exact x_ret (q83c0 32 rfl) H
  · replace H := H.2 c1
    obtain ⟨⟨s2, s3⟩, H⟩ := H
    refine x_aload_n (q83c0 22 rfl) rfl ?_
    refine x_getr (q83c0 23 rfl) fd56_20 ?_
    refine x_iload (q83c0 24 rfl) rfl ?_
    refine x_aload_n (q83c0 25 rfl) rfl ?_
    refine x_getr (q83c0 26 rfl) fd56_19 ?_
    refine x_iload (q83c0 27 rfl) rfl ?_
    refine x_iaload (q83c0 28 rfl) (al71 _) rfl (ag_l rfl rfl (rfl)) s2 ?_
    refine x_iastore (q83c0 29 rfl) (al72 _) rfl (Nat.le_of_ble_eq_true rfl) s2 (j := x5) rfl ?_
    refine x_iinc (q83c0 30 rfl) rfl ⟨Nat.le_of_ble_eq_true rfl, trivial⟩ s3 ?_
    refine x_goto (q83c0 31 rfl) ?_
    exact H
theorem g_Mo_part_66 {n : Nat} {h : am_H} {x1 : Int} {x2 : Int} {x3 : Int} {x4 : Int} {x5 : Int} {P : am_H → Prop} (H : (x2 < x5 → P h) ∧ (x5 ≤ x2 → ((x3 ≤ x5 → P h) ∧ (x5 < x3 → ((x5 ≠ x2 → am_x (am_cd (n + 0)) 83 (am_qv P) 0 94 [some (.inr (.inr 56)), some (.inl x1), some (.inl x2), some (.inl x3), some (.inl x4), some (.inl x5), some (.inl 0), some (.inl 0)] [] h) ∧ (x5 = x2 → am_x (am_cd (n + 0)) 83 (am_qv P) 0 94 [some (.inr (.inr 56)), some (.inl x1), some (.inl x2), some (.inl x3), some (.inl x4), some (.inl x5), some (.inl 5), some (.inl 0)] [] h)))))) : am_x (am_cd (n + 0)) 83 (am_qv P) 0 66 [some (.inr (.inr 56)), some (.inl x1), some (.inl x2), some (.inl x3), some (.inl x4), some (.inl x5), none, none] [] h := by
  refine x_iload (q83c0 35 rfl) rfl ?_
  refine x_iload_n (q83c0 36 rfl) rfl ?_
  refine x_icmp_gt (q83c0 37 rfl) (fun c1 => ?_) (fun c1 => ?_)
  · replace H := H.1 c1
    exact x_ret (q83c1 38 rfl) H
  · replace H := H.2 c1
    refine x_iload (q83c0 38 rfl) rfl ?_
    refine x_iload_n (q83c0 39 rfl) rfl ?_
    refine x_icmp_ge (q83c0 40 rfl) (fun c2 => ?_) (fun c2 => ?_)
    · replace H := H.1 c2
      exact x_ret (q83c1 38 rfl) H
    · replace H := H.2 c2
      refine x_iload (q83c0 41 rfl) rfl ?_
      refine x_iload_n (q83c0 42 rfl) rfl ?_
      refine x_icmp_ne (q83c0 43 rfl) (fun c3 => ?_) (fun c3 => ?_)
      · replace H := H.1 c3
        refine x_iconst (q83c0 46 rfl) ?_
        refine x_istore (q83c0 47 rfl) ⟨Nat.le_of_ble_eq_true rfl, trivial⟩ ?_
        refine x_iconst (q83c0 48 rfl) ?_
        refine x_istore (q83c0 49 rfl) ⟨Nat.le_of_ble_eq_true rfl, trivial⟩ ?_
        exact H
      · replace H := H.2 c3
        refine x_iconst (q83c0 44 rfl) ?_
        refine x_goto (q83c0 45 rfl) ?_
        refine x_istore (q83c0 47 rfl) ⟨Nat.le_of_ble_eq_true rfl, trivial⟩ ?_
        refine x_iconst (q83c0 48 rfl) ?_
        refine x_istore (q83c0 49 rfl) ⟨Nat.le_of_ble_eq_true rfl, trivial⟩ ?_
        exact H
theorem g_Mo_part_94 {n : Nat} {h : am_H} {x1 : Int} {x2 : Int} {x3 : Int} {x4 : Int} {x5 : Int} {x6 : Int} {x7 : Int} {P : am_H → Prop} (H : (x1 ≤ x7 → (((0 ≤ x1 ∧ x1 < 12) ∧ am_ok (x1 + 1)) ∧ ((x5 ≠ x2 → ((am_ok (x4 + x6)) ∧ (∃ h6, am_cd (n + 0) 83 [.inr (.inr 56), .inl (x1 + 1), .inl x2, .inl x3, .inl (x4 + x6)] (am_up h 71 x1 x5) none h6 ∧ ((am_ok (x5 + 1)) ∧ am_x (am_cd (n + 0)) 83 (am_qv P) 0 66 [some (.inr (.inr 56)), some (.inl x1), some (.inl x2), some (.inl x3), some (.inl x4), some (.inl (x5 + 1)), none, none] [] h6)))) ∧ (x5 = x2 → ((am_ok (x2 + 1) ∧ am_ok (x4 + x6)) ∧ (∃ h11, am_cd (n + 0) 83 [.inr (.inr 56), .inl (x1 + 1), .inl (x2 + 1), .inl x3, .inl (x4 + x6)] (am_up h 71 x1 x5) none h11 ∧ ((am_ok (x5 + 1)) ∧ am_x (am_cd (n + 0)) 83 (am_qv P) 0 66 [some (.inr (.inr 56)), some (.inl x1), some (.inl x2), some (.inl x3), some (.inl x4), some (.inl (x5 + 1)), none, none] [] h11))))))) ∧ (x7 < x1 → ((0 ≤ x7 ∧ x7 < 12) ∧ ((h 71 x7 ≠ x5 → ((am_ok (x6 + 0) ∧ am_ok (x7 + 1)) ∧ am_x (am_cd (n + 0)) 83 (am_qv P) 0 94 [some (.inr (.inr 56)), some (.inl x1), some (.inl x2), some (.inl x3), some (.inl x4), some (.inl x5), some (.inl (x6 + 0)), some (.inl (x7 + 1))] [] h)) ∧ (h 71 x7 = x5 → ((am_ok (12 * x7) ∧ am_ok (12 * x7 + x1) ∧ (0 ≤ 12 * x7 + x1 ∧ 12 * x7 + x1 < 144) ∧ am_ok (x6 + h 69 (12 * x7 + x1)) ∧ am_ok (x7 + 1)) ∧ am_x (am_cd (n + 0)) 83 (am_qv P) 0 94 [some (.inr (.inr 56)), some (.inl x1), some (.inl x2), some (.inl x3), some (.inl x4), some (.inl x5), some (.inl (x6 + h 69 (12 * x7 + x1))), some (.inl (x7 + 1))] [] h)))))) : am_x (am_cd (n + 0)) 83 (am_qv P) 0 94 [some (.inr (.inr 56)), some (.inl x1), some (.inl x2), some (.inl x3), some (.inl x4), some (.inl x5), some (.inl x6), some (.inl x7)] [] h := by
  refine x_iload (q83c0 50 rfl) rfl ?_
  refine x_iload_n (q83c0 51 rfl) rfl ?_
  refine x_icmp_ge (q83c0 52 rfl) (fun c1 => ?_) (fun c1 => ?_)
  · replace H := H.1 c1
    obtain ⟨⟨s2, s3⟩, H⟩ := H
    refine x_aload_n (q83c1 14 rfl) rfl ?_
    refine x_getr (q83c1 15 rfl) fd56_19 ?_
    refine x_iload_n (q83c1 16 rfl) rfl ?_
    refine x_iload (q83c1 17 rfl) rfl ?_
    refine x_iastore (q83c1 18 rfl) (al71 _) rfl (Nat.le_of_ble_eq_true rfl) s2 (j := x1) rfl ?_
    refine x_aload_n (q83c1 19 rfl) rfl ?_
    refine x_iload_n (q83c1 20 rfl) rfl ?_
    refine x_iconst (q83c1 21 rfl) ?_
    refine x_iadd (q83c1 22 rfl) s3 ?_
    refine x_iload (q83c1 23 rfl) rfl ?_
    refine x_iload_n (q83c1 24 rfl) rfl ?_
    refine x_icmp_ne (q83c1 25 rfl) (fun c4 => ?_) (fun c4 => ?_)
    · replace H := H.1 c4
      obtain ⟨s5, H⟩ := H
      refine x_iload_n (q83c1 30 rfl) rfl ?_
      refine x_iload_n (q83c1 31 rfl) rfl ?_
      refine x_iload (q83c1 32 rfl) rfl ?_
      refine x_iload (q83c1 33 rfl) rfl ?_
      refine x_iadd (q83c1 34 rfl) s5 ?_
      obtain ⟨h6, w7, H⟩ := H
      refine x_cvv (q83c1 35 rfl) rfl oc56 rfl (Nat.le_of_ble_eq_true rfl) ⟨h6, w7, ?_⟩
      obtain ⟨s8, H⟩ := H
      refine x_iinc (q83c1 36 rfl) rfl ⟨Nat.le_of_ble_eq_true rfl, trivial⟩ s8 ?_
      refine x_goto (q83c1 37 rfl) ?_
      exact am_x_weak (ls' := [some (.inr (.inr 56)), some (.inl x1), some (.inl x2), some (.inl x3), some (.inl x4), some (.inl (x5 + 1)), some (.inl x6), some (.inl x7)]) (lle_c (lle_c (lle_c (lle_c (lle_c (lle_c (lle_d trivial (lle_d trivial (lle_nil))))))))) H
    · replace H := H.2 c4
      obtain ⟨⟨s9, s10⟩, H⟩ := H
      refine x_iload_n (q83c1 26 rfl) rfl ?_
      refine x_iconst (q83c1 27 rfl) ?_
      refine x_iadd (q83c1 28 rfl) s9 ?_
      refine x_goto (q83c1 29 rfl) ?_
      refine x_iload_n (q83c1 31 rfl) rfl ?_
      refine x_iload (q83c1 32 rfl) rfl ?_
      refine x_iload (q83c1 33 rfl) rfl ?_
      refine x_iadd (q83c1 34 rfl) s10 ?_
      obtain ⟨h11, w12, H⟩ := H
      refine x_cvv (q83c1 35 rfl) rfl oc56 rfl (Nat.le_of_ble_eq_true rfl) ⟨h11, w12, ?_⟩
      obtain ⟨s13, H⟩ := H
      refine x_iinc (q83c1 36 rfl) rfl ⟨Nat.le_of_ble_eq_true rfl, trivial⟩ s13 ?_
      refine x_goto (q83c1 37 rfl) ?_
      exact am_x_weak (ls' := [some (.inr (.inr 56)), some (.inl x1), some (.inl x2), some (.inl x3), some (.inl x4), some (.inl (x5 + 1)), some (.inl x6), some (.inl x7)]) (lle_c (lle_c (lle_c (lle_c (lle_c (lle_c (lle_d trivial (lle_d trivial (lle_nil))))))))) H
  · replace H := H.2 c1
    obtain ⟨s14, H⟩ := H
    refine x_iload (q83c0 53 rfl) rfl ?_
    refine x_aload_n (q83c0 54 rfl) rfl ?_
    refine x_getr (q83c0 55 rfl) fd56_19 ?_
    refine x_iload (q83c0 56 rfl) rfl ?_
    refine x_iaload (q83c0 57 rfl) (al71 _) rfl (ag_l rfl rfl (rfl)) s14 ?_
    refine x_iload (q83c0 58 rfl) rfl ?_
    refine x_icmp_ne (q83c0 59 rfl) (fun c15 => ?_) (fun c15 => ?_)
    · replace H := H.1 c15
      obtain ⟨⟨s16, s17⟩, H⟩ := H
      refine x_iconst (q83c1 9 rfl) ?_
      refine x_iadd (q83c1 10 rfl) s16 ?_
      refine x_istore (q83c1 11 rfl) ⟨Nat.le_of_ble_eq_true rfl, trivial⟩ ?_
      refine x_iinc (q83c1 12 rfl) rfl ⟨Nat.le_of_ble_eq_true rfl, trivial⟩ s17 ?_
      refine x_goto (q83c1 13 rfl) ?_
      exact H
    · replace H := H.2 c15
      obtain ⟨⟨s18, s19, s20, s21, s22⟩, H⟩ := H
      refine x_aload_n (q83c1 0 rfl) rfl ?_
      refine x_getr (q83c1 1 rfl) fd56_17 ?_
      refine x_bipush (q83c1 2 rfl) ?_
      refine x_iload (q83c1 3 rfl) rfl ?_
      refine x_imul (q83c1 4 rfl) s18 ?_
      refine x_iload_n (q83c1 5 rfl) rfl ?_
      refine x_iadd (q83c1 6 rfl) s19 ?_
      refine x_iaload (q83c1 7 rfl) (al69 _) rfl (ag_l rfl rfl (rfl)) s20 ?_
      refine x_goto (q83c1 8 rfl) ?_
      refine x_iadd (q83c1 10 rfl) s21 ?_
      refine x_istore (q83c1 11 rfl) ⟨Nat.le_of_ble_eq_true rfl, trivial⟩ ?_
      refine x_iinc (q83c1 12 rfl) rfl ⟨Nat.le_of_ble_eq_true rfl, trivial⟩ s22 ?_
      refine x_goto (q83c1 13 rfl) ?_
      exact H
theorem e_Mo_goes {n : Nat} {h : am_H} {x1 : Int} {x2 : Int} {x3 : Int} {x4 : Int} {P : am_H → Prop} (H : (x2 ≠ 0 → am_x (am_cd (n + 0)) 84 (am_qv P) 0 79 [some (.inr (.inr 56)), some (.inl x1), some (.inl x2), some (.inl x3), some (.inl x4), some (.inl 0), none] [] h) ∧ (x2 = 0 → ((am_ok (12 * x1) ∧ am_ok (12 * x1 + h 56 26) ∧ (0 ≤ 12 * x1 + h 56 26 ∧ 12 * x1 + h 56 26 < 144) ∧ am_ok (x4 + h 73 (12 * x1 + h 56 26))) ∧ ((h 56 25 < 0 → am_x (am_cd (n + 0)) 84 (am_qv P) 0 49 [some (.inr (.inr 56)), none, none, some (.inl x3), none, none, some (.inl 0)] [] (am_up h 56 25 (x4 + h 73 (12 * x1 + h 56 26)))) ∧ (0 ≤ h 56 25 → ((x4 + h 73 (12 * x1 + h 56 26) < h 56 25 → am_x (am_cd (n + 0)) 84 (am_qv P) 0 49 [some (.inr (.inr 56)), none, none, some (.inl x3), none, none, some (.inl 0)] [] (am_up h 56 25 (x4 + h 73 (12 * x1 + h 56 26)))) ∧ (h 56 25 ≤ x4 + h 73 (12 * x1 + h 56 26) → P h))))))) : ∃ h1, am_cd (n + 1) 84 [.inr (.inr 56), .inl x1, .inl x2, .inl x3, .inl x4] h none h1 ∧ P h1 := by
  refine am_outv (d := (n + 0)) (ls := [some (.inr (.inr 56)), some (.inl x1), some (.inl x2), some (.inl x3), some (.inl x4), none, none]) rfl ab84 ml84 (Nat.le_of_ble_eq_true rfl) np84 rfl ?_
  refine x_iload_n (q84c0 0 rfl) rfl ?_
  refine x_if_ne (q84c0 1 rfl) (fun c1 => ?_) (fun c1 => ?_)
  · replace H := H.1 c1
    refine x_iconst (q84c0 41 rfl) ?_
    refine x_istore (q84c0 42 rfl) ⟨Nat.le_of_ble_eq_true rfl, trivial⟩ ?_
    exact H
  · replace H := H.2 c1
    obtain ⟨⟨s2, s3, s4, s5⟩, H⟩ := H
    refine x_iload (q84c0 2 rfl) rfl ?_
    refine x_aload_n (q84c0 3 rfl) rfl ?_
    refine x_getr (q84c0 4 rfl) fd56_22 ?_
    refine x_bipush (q84c0 5 rfl) ?_
    refine x_iload_n (q84c0 6 rfl) rfl ?_
    refine x_imul (q84c0 7 rfl) s2 ?_
    refine x_aload_n (q84c0 8 rfl) rfl ?_
    refine x_getf (q84c0 9 rfl) fd56_26 (rfl) ?_
    refine x_iadd (q84c0 10 rfl) s3 ?_
    refine x_iaload (q84c0 11 rfl) (al73 _) rfl (ag_l rfl rfl (rfl)) s4 ?_
    refine x_iadd (q84c0 12 rfl) s5 ?_
    refine x_istore (q84c0 13 rfl) ⟨Nat.le_of_ble_eq_true rfl, trivial⟩ ?_
    refine x_aload_n (q84c0 14 rfl) rfl ?_
    refine x_getf (q84c0 15 rfl) fd56_25 (rfl) ?_
    refine x_if_lt (q84c0 16 rfl) (fun c6 => ?_) (fun c6 => ?_)
    · replace H := H.1 c6
      refine x_aload_n (q84c0 22 rfl) rfl ?_
      refine x_iload (q84c0 23 rfl) rfl ?_
      refine x_putf (q84c0 24 rfl) fd56_25 ?_
      refine x_iconst (q84c0 25 rfl) ?_
      refine x_istore (q84c0 26 rfl) ⟨Nat.le_of_ble_eq_true rfl, trivial⟩ ?_
      exact am_x_weak (ls' := [some (.inr (.inr 56)), some (.inl x1), some (.inl x2), some (.inl x3), some (.inl x4), some (.inl (x4 + h 73 (12 * x1 + h 56 26))), some (.inl 0)]) (lle_c (lle_d trivial (lle_d trivial (lle_c (lle_d trivial (lle_d trivial (lle_c (lle_nil)))))))) H
    · replace H := H.2 c6
      refine x_iload (q84c0 17 rfl) rfl ?_
      refine x_aload_n (q84c0 18 rfl) rfl ?_
      refine x_getf (q84c0 19 rfl) fd56_25 (rfl) ?_
      refine x_icmp_lt (q84c0 20 rfl) (fun c7 => ?_) (fun c7 => ?_)
      · replace H := H.1 c7
        refine x_aload_n (q84c0 22 rfl) rfl ?_
        refine x_iload (q84c0 23 rfl) rfl ?_
        refine x_putf (q84c0 24 rfl) fd56_25 ?_
        refine x_iconst (q84c0 25 rfl) ?_
        refine x_istore (q84c0 26 rfl) ⟨Nat.le_of_ble_eq_true rfl, trivial⟩ ?_
        exact am_x_weak (ls' := [some (.inr (.inr 56)), some (.inl x1), some (.inl x2), some (.inl x3), some (.inl x4), some (.inl (x4 + h 73 (12 * x1 + h 56 26))), some (.inl 0)]) (lle_c (lle_d trivial (lle_d trivial (lle_c (lle_d trivial (lle_d trivial (lle_c (lle_nil)))))))) H
      · replace H := H.2 c7
        exact x_ret (q84c0 21 rfl) H
theorem g_Mo_goes_49 {n : Nat} {h : am_H} {x3 : Int} {x6 : Int} {P : am_H → Prop} (H : (x3 ≤ x6 → P h) ∧ (x6 < x3 → (((0 ≤ x6 ∧ x6 < 8) ∧ am_ok (x6 + 1)) ∧ am_x (am_cd (n + 0)) 84 (am_qv P) 0 49 [some (.inr (.inr 56)), none, none, some (.inl x3), none, none, some (.inl (x6 + 1))] [] (am_up h 75 x6 (h 74 x6))))) : am_x (am_cd (n + 0)) 84 (am_qv P) 0 49 [some (.inr (.inr 56)), none, none, some (.inl x3), none, none, some (.inl x6)] [] h := by
  refine x_iload (q84c0 27 rfl) rfl ?_
  refine x_iload_n (q84c0 28 rfl) rfl ?_
  refine x_icmp_ge (q84c0 29 rfl) (fun c1 => ?_) (fun c1 => ?_)
  · replace H := H.1 c1
    exact x_ret (q84c0 40 rfl) H
  · replace H := H.2 c1
    obtain ⟨⟨s2, s3⟩, H⟩ := H
    refine x_aload_n (q84c0 30 rfl) rfl ?_
    refine x_getr (q84c0 31 rfl) fd56_24 ?_
    refine x_iload (q84c0 32 rfl) rfl ?_
    refine x_aload_n (q84c0 33 rfl) rfl ?_
    refine x_getr (q84c0 34 rfl) fd56_23 ?_
    refine x_iload (q84c0 35 rfl) rfl ?_
    refine x_iaload (q84c0 36 rfl) (al74 _) rfl (ag_l rfl rfl (rfl)) s2 ?_
    refine x_iastore (q84c0 37 rfl) (al75 _) rfl (Nat.le_of_ble_eq_true rfl) s2 (j := x6) rfl ?_
    refine x_iinc (q84c0 38 rfl) rfl ⟨Nat.le_of_ble_eq_true rfl, trivial⟩ s3 ?_
    refine x_goto (q84c0 39 rfl) ?_
    exact H
theorem g_Mo_goes_79 {n : Nat} {h : am_H} {x1 : Int} {x2 : Int} {x3 : Int} {x4 : Int} {x5 : Int} {P : am_H → Prop} (H : (h 57 0 ≤ x5 → P h) ∧ (x5 < h 57 0 → ((am_and (am_shr x2 x5) 1 ≠ 0 → (((0 ≤ x3 ∧ x3 < 8) ∧ am_ok (x3 + 1) ∧ am_ok (12 * x1) ∧ am_ok (12 * x1 + x5) ∧ (0 ≤ 12 * x1 + x5 ∧ 12 * x1 + x5 < 144) ∧ am_ok (x4 + h 73 (12 * x1 + x5))) ∧ (∃ h9, am_cd (n + 0) 84 [.inr (.inr 56), .inl x5, .inl (am_and x2 (am_xor (am_shl 1 x5) (-1))), .inl (x3 + 1), .inl (x4 + h 73 (12 * x1 + x5))] (am_up h 74 x3 x5) none h9 ∧ ((am_ok (x5 + 1)) ∧ am_x (am_cd (n + 0)) 84 (am_qv P) 0 79 [some (.inr (.inr 56)), some (.inl x1), some (.inl x2), some (.inl x3), some (.inl x4), some (.inl (x5 + 1)), none] [] h9)))) ∧ (am_and (am_shr x2 x5) 1 = 0 → ((am_ok (x5 + 1)) ∧ am_x (am_cd (n + 0)) 84 (am_qv P) 0 79 [some (.inr (.inr 56)), some (.inl x1), some (.inl x2), some (.inl x3), some (.inl x4), some (.inl (x5 + 1)), none] [] h))))) : am_x (am_cd (n + 0)) 84 (am_qv P) 0 79 [some (.inr (.inr 56)), some (.inl x1), some (.inl x2), some (.inl x3), some (.inl x4), some (.inl x5), none] [] h := by
  refine x_iload (q84c0 43 rfl) rfl ?_
  refine x_aload_n (q84c0 44 rfl) rfl ?_
  refine x_getr (q84c0 45 rfl) fd56_0 ?_
  refine x_iconst (q84c0 46 rfl) ?_
  refine x_iaload (q84c0 47 rfl) (al57 _) rfl (ag_l rfl rfl (rfl)) (by decide) ?_
  refine x_icmp_ge (q84c0 48 rfl) (fun c1 => ?_) (fun c1 => ?_)
  · replace H := H.1 c1
    exact x_ret (q84c1 26 rfl) H
  · replace H := H.2 c1
    refine x_iload_n (q84c0 49 rfl) rfl ?_
    refine x_iload (q84c0 50 rfl) rfl ?_
    refine x_ishr (q84c0 51 rfl) ?_
    refine x_iconst (q84c0 52 rfl) ?_
    refine x_iand (q84c0 53 rfl) ?_
    refine x_if_ne (q84c0 54 rfl) (fun c2 => ?_) (fun c2 => ?_)
    · replace H := H.1 c2
      obtain ⟨⟨s3, s4, s5, s6, s7, s8⟩, H⟩ := H
      refine x_aload_n (q84c0 56 rfl) rfl ?_
      refine x_getr (q84c0 57 rfl) fd56_23 ?_
      refine x_iload_n (q84c0 58 rfl) rfl ?_
      refine x_iload (q84c0 59 rfl) rfl ?_
      refine x_iastore (q84c1 0 rfl) (al74 _) rfl (Nat.le_of_ble_eq_true rfl) s3 (j := x3) rfl ?_
      refine x_aload_n (q84c1 1 rfl) rfl ?_
      refine x_iload (q84c1 2 rfl) rfl ?_
      refine x_iload_n (q84c1 3 rfl) rfl ?_
      refine x_iconst (q84c1 4 rfl) ?_
      refine x_iload (q84c1 5 rfl) rfl ?_
      refine x_ishl (q84c1 6 rfl) ?_
      refine x_iconst (q84c1 7 rfl) ?_
      refine x_ixor (q84c1 8 rfl) ?_
      refine x_iand (q84c1 9 rfl) ?_
      refine x_iload_n (q84c1 10 rfl) rfl ?_
      refine x_iconst (q84c1 11 rfl) ?_
      refine x_iadd (q84c1 12 rfl) s4 ?_
      refine x_iload (q84c1 13 rfl) rfl ?_
      refine x_aload_n (q84c1 14 rfl) rfl ?_
      refine x_getr (q84c1 15 rfl) fd56_22 ?_
      refine x_bipush (q84c1 16 rfl) ?_
      refine x_iload_n (q84c1 17 rfl) rfl ?_
      refine x_imul (q84c1 18 rfl) s5 ?_
      refine x_iload (q84c1 19 rfl) rfl ?_
      refine x_iadd (q84c1 20 rfl) s6 ?_
      refine x_iaload (q84c1 21 rfl) (al73 _) rfl (ag_l rfl rfl (up_c rfl (rfl))) s7 ?_
      refine x_iadd (q84c1 22 rfl) s8 ?_
      obtain ⟨h9, w10, H⟩ := H
      refine x_cvv (q84c1 23 rfl) rfl oc56 rfl (Nat.le_of_ble_eq_true rfl) ⟨h9, w10, ?_⟩
      obtain ⟨s11, H⟩ := H
      refine x_iinc (q84c1 24 rfl) rfl ⟨Nat.le_of_ble_eq_true rfl, trivial⟩ s11 ?_
      refine x_goto (q84c1 25 rfl) ?_
      exact H
    · replace H := H.2 c2
      obtain ⟨s12, H⟩ := H
      refine x_goto (q84c0 55 rfl) ?_
      refine x_iinc (q84c1 24 rfl) rfl ⟨Nat.le_of_ble_eq_true rfl, trivial⟩ s12 ?_
      refine x_goto (q84c1 25 rfl) ?_
      exact H
theorem e_Mo_countOf {h : am_H} {x0 : Int} {P : Int → am_H → Prop} (H : am_x (am_cd 0) 85 (am_qi P) 0 4 [none, some (.inl 0), some (.inl x0)] [] h) : ∃ a h1, am_cd 1 85 [.inl x0] h (some (.inl a)) h1 ∧ P a h1 := by
  refine am_outi (d := 0) (ls := [some (.inl x0), none, none]) rfl ab85 ml85 (Nat.le_of_ble_eq_true rfl) np85 rfl ?_
  refine x_iconst (q85c0 0 rfl) ?_
  refine x_istore_n (q85c0 1 rfl) ⟨Nat.le_of_ble_eq_true rfl, trivial⟩ ?_
  refine x_iload_n (q85c0 2 rfl) rfl ?_
  refine x_istore_n (q85c0 3 rfl) ⟨Nat.le_of_ble_eq_true rfl, trivial⟩ ?_
  exact am_x_weak (ls' := [some (.inl x0), some (.inl 0), some (.inl x0)]) (lle_d trivial (lle_c (lle_c (lle_nil)))) H
theorem g_Mo_countOf_4 {h : am_H} {x1 : Int} {x2 : Int} {P : Int → am_H → Prop} (H : (x2 = 0 → P x1 h) ∧ (x2 ≠ 0 → ((am_ok (x1 + 1) ∧ am_ok (x2 - 1)) ∧ am_x (am_cd 0) 85 (am_qi P) 0 4 [none, some (.inl (x1 + 1)), some (.inl (am_and x2 (x2 - 1)))] [] h))) : am_x (am_cd 0) 85 (am_qi P) 0 4 [none, some (.inl x1), some (.inl x2)] [] h := by
  refine x_iload_n (q85c0 4 rfl) rfl ?_
  refine x_if_eq (q85c0 5 rfl) (fun c1 => ?_) (fun c1 => ?_)
  · replace H := H.1 c1
    refine x_iload_n (q85c0 14 rfl) rfl ?_
    exact x_ireti (q85c0 15 rfl) zb85 H
  · replace H := H.2 c1
    obtain ⟨⟨s2, s3⟩, H⟩ := H
    refine x_iinc (q85c0 6 rfl) rfl ⟨Nat.le_of_ble_eq_true rfl, trivial⟩ s2 ?_
    refine x_iload_n (q85c0 7 rfl) rfl ?_
    refine x_iload_n (q85c0 8 rfl) rfl ?_
    refine x_iconst (q85c0 9 rfl) ?_
    refine x_isub (q85c0 10 rfl) s3 ?_
    refine x_iand (q85c0 11 rfl) ?_
    refine x_istore_n (q85c0 12 rfl) ⟨Nat.le_of_ble_eq_true rfl, trivial⟩ ?_
    refine x_goto (q85c0 13 rfl) ?_
    exact H
theorem e_Integer_bitCount {h : am_H} {x0 : Int} {P : Int → am_H → Prop} (H : (am_ok (x0 - am_and (am_ushr x0 1) 1431655765) ∧ am_ok (am_and (x0 - am_and (am_ushr x0 1) 1431655765) 858993459 + am_and (am_ushr (x0 - am_and (am_ushr x0 1) 1431655765) 2) 858993459) ∧ am_ok (am_and (x0 - am_and (am_ushr x0 1) 1431655765) 858993459 + am_and (am_ushr (x0 - am_and (am_ushr x0 1) 1431655765) 2) 858993459 + am_ushr (am_and (x0 - am_and (am_ushr x0 1) 1431655765) 858993459 + am_and (am_ushr (x0 - am_and (am_ushr x0 1) 1431655765) 2) 858993459) 4) ∧ am_ok (am_and (am_and (x0 - am_and (am_ushr x0 1) 1431655765) 858993459 + am_and (am_ushr (x0 - am_and (am_ushr x0 1) 1431655765) 2) 858993459 + am_ushr (am_and (x0 - am_and (am_ushr x0 1) 1431655765) 858993459 + am_and (am_ushr (x0 - am_and (am_ushr x0 1) 1431655765) 2) 858993459) 4) 252645135 + am_ushr (am_and (am_and (x0 - am_and (am_ushr x0 1) 1431655765) 858993459 + am_and (am_ushr (x0 - am_and (am_ushr x0 1) 1431655765) 2) 858993459 + am_ushr (am_and (x0 - am_and (am_ushr x0 1) 1431655765) 858993459 + am_and (am_ushr (x0 - am_and (am_ushr x0 1) 1431655765) 2) 858993459) 4) 252645135) 8) ∧ am_ok (am_and (am_and (x0 - am_and (am_ushr x0 1) 1431655765) 858993459 + am_and (am_ushr (x0 - am_and (am_ushr x0 1) 1431655765) 2) 858993459 + am_ushr (am_and (x0 - am_and (am_ushr x0 1) 1431655765) 858993459 + am_and (am_ushr (x0 - am_and (am_ushr x0 1) 1431655765) 2) 858993459) 4) 252645135 + am_ushr (am_and (am_and (x0 - am_and (am_ushr x0 1) 1431655765) 858993459 + am_and (am_ushr (x0 - am_and (am_ushr x0 1) 1431655765) 2) 858993459 + am_ushr (am_and (x0 - am_and (am_ushr x0 1) 1431655765) 858993459 + am_and (am_ushr (x0 - am_and (am_ushr x0 1) 1431655765) 2) 858993459) 4) 252645135) 8 + am_ushr (am_and (am_and (x0 - am_and (am_ushr x0 1) 1431655765) 858993459 + am_and (am_ushr (x0 - am_and (am_ushr x0 1) 1431655765) 2) 858993459 + am_ushr (am_and (x0 - am_and (am_ushr x0 1) 1431655765) 858993459 + am_and (am_ushr (x0 - am_and (am_ushr x0 1) 1431655765) 2) 858993459) 4) 252645135 + am_ushr (am_and (am_and (x0 - am_and (am_ushr x0 1) 1431655765) 858993459 + am_and (am_ushr (x0 - am_and (am_ushr x0 1) 1431655765) 2) 858993459 + am_ushr (am_and (x0 - am_and (am_ushr x0 1) 1431655765) 858993459 + am_and (am_ushr (x0 - am_and (am_ushr x0 1) 1431655765) 2) 858993459) 4) 252645135) 8) 16)) ∧ P (am_and (am_and (am_and (x0 - am_and (am_ushr x0 1) 1431655765) 858993459 + am_and (am_ushr (x0 - am_and (am_ushr x0 1) 1431655765) 2) 858993459 + am_ushr (am_and (x0 - am_and (am_ushr x0 1) 1431655765) 858993459 + am_and (am_ushr (x0 - am_and (am_ushr x0 1) 1431655765) 2) 858993459) 4) 252645135 + am_ushr (am_and (am_and (x0 - am_and (am_ushr x0 1) 1431655765) 858993459 + am_and (am_ushr (x0 - am_and (am_ushr x0 1) 1431655765) 2) 858993459 + am_ushr (am_and (x0 - am_and (am_ushr x0 1) 1431655765) 858993459 + am_and (am_ushr (x0 - am_and (am_ushr x0 1) 1431655765) 2) 858993459) 4) 252645135) 8 + am_ushr (am_and (am_and (x0 - am_and (am_ushr x0 1) 1431655765) 858993459 + am_and (am_ushr (x0 - am_and (am_ushr x0 1) 1431655765) 2) 858993459 + am_ushr (am_and (x0 - am_and (am_ushr x0 1) 1431655765) 858993459 + am_and (am_ushr (x0 - am_and (am_ushr x0 1) 1431655765) 2) 858993459) 4) 252645135 + am_ushr (am_and (am_and (x0 - am_and (am_ushr x0 1) 1431655765) 858993459 + am_and (am_ushr (x0 - am_and (am_ushr x0 1) 1431655765) 2) 858993459 + am_ushr (am_and (x0 - am_and (am_ushr x0 1) 1431655765) 858993459 + am_and (am_ushr (x0 - am_and (am_ushr x0 1) 1431655765) 2) 858993459) 4) 252645135) 8) 16) 63) h) : ∃ a h1, am_cd 1 86 [.inl x0] h (some (.inl a)) h1 ∧ P a h1 := by
  refine am_outi (d := 0) (ls := [some (.inl x0)]) rfl ab86 ml86 (Nat.le_of_ble_eq_true rfl) np86 rfl ?_
  obtain ⟨⟨s1, s2, s3, s4, s5⟩, H⟩ := H
  refine x_iload_n (q86c0 0 rfl) rfl ?_
  refine x_iload_n (q86c0 1 rfl) rfl ?_
  refine x_iconst (q86c0 2 rfl) ?_
  refine x_iushr (q86c0 3 rfl) ?_
  refine x_ldc_w (q86c0 4 rfl) ?_
  refine x_iand (q86c0 5 rfl) ?_
  refine x_isub (q86c0 6 rfl) s1 ?_
  refine x_istore_n (q86c0 7 rfl) ⟨Nat.le_of_ble_eq_true rfl, trivial⟩ ?_
  refine x_iload_n (q86c0 8 rfl) rfl ?_
  refine x_ldc_w (q86c0 9 rfl) ?_
  refine x_iand (q86c0 10 rfl) ?_
  refine x_iload_n (q86c0 11 rfl) rfl ?_
  refine x_iconst (q86c0 12 rfl) ?_
  refine x_iushr (q86c0 13 rfl) ?_
  refine x_ldc_w (q86c0 14 rfl) ?_
  refine x_iand (q86c0 15 rfl) ?_
  refine x_iadd (q86c0 16 rfl) s2 ?_
  refine x_istore_n (q86c0 17 rfl) ⟨Nat.le_of_ble_eq_true rfl, trivial⟩ ?_
  refine x_iload_n (q86c0 18 rfl) rfl ?_
  refine x_iload_n (q86c0 19 rfl) rfl ?_
  refine x_iconst (q86c0 20 rfl) ?_
  refine x_iushr (q86c0 21 rfl) ?_
  refine x_iadd (q86c0 22 rfl) s3 ?_
  refine x_ldc_w (q86c0 23 rfl) ?_
  refine x_iand (q86c0 24 rfl) ?_
  refine x_istore_n (q86c0 25 rfl) ⟨Nat.le_of_ble_eq_true rfl, trivial⟩ ?_
  refine x_iload_n (q86c0 26 rfl) rfl ?_
  refine x_iload_n (q86c0 27 rfl) rfl ?_
  refine x_bipush (q86c0 28 rfl) ?_
  refine x_iushr (q86c0 29 rfl) ?_
  refine x_iadd (q86c0 30 rfl) s4 ?_
  refine x_istore_n (q86c0 31 rfl) ⟨Nat.le_of_ble_eq_true rfl, trivial⟩ ?_
  refine x_iload_n (q86c0 32 rfl) rfl ?_
  refine x_iload_n (q86c0 33 rfl) rfl ?_
  refine x_bipush (q86c0 34 rfl) ?_
  refine x_iushr (q86c0 35 rfl) ?_
  refine x_iadd (q86c0 36 rfl) s5 ?_
  refine x_istore_n (q86c0 37 rfl) ⟨Nat.le_of_ble_eq_true rfl, trivial⟩ ?_
  refine x_iload_n (q86c0 38 rfl) rfl ?_
  refine x_bipush (q86c0 39 rfl) ?_
  refine x_iand (q86c0 40 rfl) ?_
  exact x_ireti (q86c0 41 rfl) zb86 H
theorem e_Math_max {h : am_H} {x0 : Int} {x1 : Int} {P : Int → am_H → Prop} (H : P (max x0 x1) h) : ∃ a h1, am_cd 1 87 [.inl x0, .inl x1] h (some (.inl a)) h1 ∧ P a h1 := by
  refine am_outi (d := 0) (ls := [some (.inl x0), some (.inl x1)]) rfl ab87 ml87 (Nat.le_of_ble_eq_true rfl) np87 rfl ?_
  refine x_iload_n (q87c0 0 rfl) rfl ?_
  refine x_iload_n (q87c0 1 rfl) rfl ?_
  refine x_icmp_lt (q87c0 2 rfl) (fun c1 => ?_) (fun c1 => ?_)
  · refine x_iload_n (q87c0 5 rfl) rfl ?_
    have e : max x0 x1 = x1 := by omega
    rw [e] at H
    exact x_ireti (q87c0 6 rfl) zb87 H
  · refine x_iload_n (q87c0 3 rfl) rfl ?_
    refine x_goto (q87c0 4 rfl) ?_
    have e : max x0 x1 = x0 := by omega
    rw [e] at H
    exact x_ireti (q87c0 6 rfl) zb87 H
theorem e_Math_min {h : am_H} {x0 : Int} {x1 : Int} {P : Int → am_H → Prop} (H : P (min x0 x1) h) : ∃ a h1, am_cd 1 88 [.inl x0, .inl x1] h (some (.inl a)) h1 ∧ P a h1 := by
  refine am_outi (d := 0) (ls := [some (.inl x0), some (.inl x1)]) rfl ab88 ml88 (Nat.le_of_ble_eq_true rfl) np88 rfl ?_
  refine x_iload_n (q88c0 0 rfl) rfl ?_
  refine x_iload_n (q88c0 1 rfl) rfl ?_
  refine x_icmp_gt (q88c0 2 rfl) (fun c1 => ?_) (fun c1 => ?_)
  · refine x_iload_n (q88c0 5 rfl) rfl ?_
    have e : min x0 x1 = x1 := by omega
    rw [e] at H
    exact x_ireti (q88c0 6 rfl) zb88 H
  · refine x_iload_n (q88c0 3 rfl) rfl ?_
    refine x_goto (q88c0 4 rfl) ?_
    have e : min x0 x1 = x0 := by omega
    rw [e] at H
    exact x_ireti (q88c0 6 rfl) zb88 H
theorem e_Arrays_rangeCheck {h : am_H} {x0 : Int} {x1 : Int} {x2 : Int} {P : am_H → Prop} (H : (x1 ≤ x2 → ((0 ≤ x1 → ((x2 ≤ x0 → P h) ∧ (x0 < x2 → False))) ∧ (x1 < 0 → False))) ∧ (x2 < x1 → False)) : ∃ h1, am_cd 1 89 [.inl x0, .inl x1, .inl x2] h none h1 ∧ P h1 := by
  refine am_outv (d := 0) (ls := [some (.inl x0), some (.inl x1), some (.inl x2)]) rfl ab89 ml89 (Nat.le_of_ble_eq_true rfl) np89 rfl ?_
  refine x_iload_n (q89c0 0 rfl) rfl ?_
  refine x_iload_n (q89c0 1 rfl) rfl ?_
  refine x_icmp_le (q89c0 2 rfl) (fun c1 => ?_) (fun c1 => ?_)
  · replace H := H.1 c1
    refine x_iload_n (q89c0 7 rfl) rfl ?_
    refine x_if_ge (q89c0 8 rfl) (fun c2 => ?_) (fun c2 => ?_)
    · replace H := H.1 c2
      refine x_iload_n (q89c0 11 rfl) rfl ?_
      refine x_iload_n (q89c0 12 rfl) rfl ?_
      refine x_icmp_le (q89c0 13 rfl) (fun c3 => ?_) (fun c3 => ?_)
      · replace H := H.1 c3
        exact x_ret (q89c0 16 rfl) H
      · replace H := H.2 c3
        exact H.elim
    · replace H := H.2 c2
      exact H.elim
  · replace H := H.2 c1
    exact H.elim
theorem e_Arrays_fill {h : am_H} (p0 : Nat) (n0 : Nat) (hal0 : ∀ h : am_H, am_al h p0 = some n0) (hlo0 : p0 < 1000) {x1 : Int} {P : am_H → Prop} (H : am_x (am_cd 0) 90 (am_qv P) 0 5 [some (.inr (.inr p0)), some (.inl x1), some (.inl 0), some (.inl (n0 : Int))] [] h) : ∃ h1, am_cd 1 90 [.inr (.inr p0), .inl x1] h none h1 ∧ P h1 := by
  refine am_outv (d := 0) (ls := [some (.inr (.inr p0)), some (.inl x1), none, none]) rfl ab90 ml90 (Nat.le_of_ble_eq_true rfl) np90 rfl ?_
  refine x_iconst (q90c0 0 rfl) ?_
  refine x_istore_n (q90c0 1 rfl) ⟨Nat.le_of_ble_eq_true rfl, trivial⟩ ?_
  refine x_aload_n (q90c0 2 rfl) rfl ?_
  refine x_alen (q90c0 3 rfl) (hal0 _) rfl ?_
  refine x_istore_n (q90c0 4 rfl) ⟨Nat.le_of_ble_eq_true rfl, trivial⟩ ?_
  exact H
theorem g_Arrays_fill_5 {h : am_H} {x1 : Int} {x2 : Int} {x3 : Int} (p0 : Nat) (n0 : Nat) (hal0 : ∀ h : am_H, am_al h p0 = some n0) (hlo0 : p0 < 1000) {P : am_H → Prop} (H : (x3 ≤ x2 → P h) ∧ (x2 < x3 → (((0 ≤ x2 ∧ x2 < (n0 : Int)) ∧ am_ok (x2 + 1)) ∧ am_x (am_cd 0) 90 (am_qv P) 0 5 [some (.inr (.inr p0)), some (.inl x1), some (.inl (x2 + 1)), some (.inl x3)] [] (am_up h p0 x2 x1)))) : am_x (am_cd 0) 90 (am_qv P) 0 5 [some (.inr (.inr p0)), some (.inl x1), some (.inl x2), some (.inl x3)] [] h := by
  refine x_iload_n (q90c0 5 rfl) rfl ?_
  refine x_iload_n (q90c0 6 rfl) rfl ?_
  refine x_icmp_ge (q90c0 7 rfl) (fun c1 => ?_) (fun c1 => ?_)
  · replace H := H.1 c1
    exact x_ret (q90c0 14 rfl) H
  · replace H := H.2 c1
    obtain ⟨⟨s2, s3⟩, H⟩ := H
    refine x_aload_n (q90c0 8 rfl) rfl ?_
    refine x_iload_n (q90c0 9 rfl) rfl ?_
    refine x_iload_n (q90c0 10 rfl) rfl ?_
    refine x_iastore (q90c0 11 rfl) (hal0 _) rfl hlo0 s2 (j := x2) rfl ?_
    refine x_iinc (q90c0 12 rfl) rfl ⟨Nat.le_of_ble_eq_true rfl, trivial⟩ s3 ?_
    refine x_goto (q90c0 13 rfl) ?_
    exact H
theorem e_Answers_standing {h : am_H}  {P : Int → am_H → Prop} (H : am_x (am_cd 1) 91 (am_qi P) 0 4 [some (.inr (.inr 17)), some (.inl 0), some (.inl 0)] [] h) : ∃ a h1, am_cd 2 91 [.inr (.inr 17)] h (some (.inl a)) h1 ∧ P a h1 := by
  refine am_outi (d := 1) (ls := [some (.inr (.inr 17)), none, none]) rfl ab91 ml91 (Nat.le_of_ble_eq_true rfl) np91 rfl ?_
  refine x_iconst (q91c0 0 rfl) ?_
  refine x_istore_n (q91c0 1 rfl) ⟨Nat.le_of_ble_eq_true rfl, trivial⟩ ?_
  refine x_iconst (q91c0 2 rfl) ?_
  refine x_istore_n (q91c0 3 rfl) ⟨Nat.le_of_ble_eq_true rfl, trivial⟩ ?_
  exact H
theorem g_Answers_standing_4 {h : am_H} {x1 : Int} {x2 : Int} {P : Int → am_H → Prop} (H : (h 17 1 ≤ x2 → P x1 h) ∧ (x2 < h 17 1 → ((0 ≤ x2 ∧ x2 < 60) ∧ ((h 22 x2 ≠ (-1) → ((am_ok (x2 + 1)) ∧ am_x (am_cd 1) 91 (am_qi P) 0 4 [some (.inr (.inr 17)), some (.inl x1), some (.inl (x2 + 1))] [] h)) ∧ (h 22 x2 = (-1) → ((am_ok (x1 + 1) ∧ am_ok (x2 + 1)) ∧ am_x (am_cd 1) 91 (am_qi P) 0 4 [some (.inr (.inr 17)), some (.inl (x1 + 1)), some (.inl (x2 + 1))] [] h)))))) : am_x (am_cd 1) 91 (am_qi P) 0 4 [some (.inr (.inr 17)), some (.inl x1), some (.inl x2)] [] h := by
  refine x_iload_n (q91c0 4 rfl) rfl ?_
  refine x_aload_n (q91c0 5 rfl) rfl ?_
  refine x_getf (q91c0 6 rfl) fd17_1 (rfl) ?_
  refine x_icmp_ge (q91c0 7 rfl) (fun c1 => ?_) (fun c1 => ?_)
  · replace H := H.1 c1
    refine x_iload_n (q91c0 15 rfl) rfl ?_
    exact x_ireti (q91c0 16 rfl) zb91 H
  · replace H := H.2 c1
    refine x_aload_n (q91c0 8 rfl) rfl ?_
    refine x_iload_n (q91c0 9 rfl) rfl ?_
    refine x_cvi (q91c0 10 rfl) rfl oc17 rfl (Nat.le_of_ble_eq_true rfl) (am_lifti (Nat.le_of_ble_eq_true rfl) (e_Answers_isTaken (r1 := h 22 x2) (rfl) ?_))
    obtain ⟨s2, H⟩ := H
    refine ⟨s2, ?_⟩
    refine ⟨fun c3 => ?_, fun c3 => ?_⟩
    · replace H := H.1 c3
      obtain ⟨s4, H⟩ := H
      refine x_if_ne_t (q91c0 11 rfl) (by decide) ?_
      refine x_iinc (q91c0 13 rfl) rfl ⟨Nat.le_of_ble_eq_true rfl, trivial⟩ s4 ?_
      refine x_goto (q91c0 14 rfl) ?_
      exact H
    · replace H := H.2 c3
      obtain ⟨⟨s5, s6⟩, H⟩ := H
      refine x_if_ne_f (q91c0 11 rfl) (by decide) ?_
      refine x_iinc (q91c0 12 rfl) rfl ⟨Nat.le_of_ble_eq_true rfl, trivial⟩ s5 ?_
      refine x_iinc (q91c0 13 rfl) rfl ⟨Nat.le_of_ble_eq_true rfl, trivial⟩ s6 ?_
      refine x_goto (q91c0 14 rfl) ?_
      exact H
theorem e_Answers_sumWeights {h : am_H} {x1 : Int} {x2 : Int} {x3 : Int} {P : am_H → Prop} (H : ∃ h1, am_cd 1 90 [.inr (.inr 23), .inl 0] h none h1 ∧ ((am_ok (h1 17 1 - 1)) ∧ am_x (am_cd 1) 92 (am_qv P) 0 19 [some (.inr (.inr 17)), some (.inl x1), some (.inl x2), some (.inl x3), some (.inl 0), some (.inl (h1 17 1 - 1)), none] [] h1)) : ∃ h1, am_cd 2 92 [.inr (.inr 17), .inl x1, .inl x2, .inl x3] h none h1 ∧ P h1 := by
  refine am_outv (d := 1) (ls := [some (.inr (.inr 17)), some (.inl x1), some (.inl x2), some (.inl x3), none, none, none]) rfl ab92 ml92 (Nat.le_of_ble_eq_true rfl) np92 rfl ?_
  refine x_aload_n (q92c0 0 rfl) rfl ?_
  refine x_getr (q92c0 1 rfl) fd17_7 ?_
  refine x_iconst (q92c0 2 rfl) ?_
  obtain ⟨h1, w2, H⟩ := H
  refine x_csv (q92c0 3 rfl) rfl rfl rfl (Nat.le_of_ble_eq_true rfl) ⟨h1, w2, ?_⟩
  obtain ⟨s3, H⟩ := H
  refine x_iconst (q92c0 4 rfl) ?_
  refine x_istore (q92c0 5 rfl) ⟨Nat.le_of_ble_eq_true rfl, trivial⟩ ?_
  refine x_aload_n (q92c0 6 rfl) rfl ?_
  refine x_getf (q92c0 7 rfl) fd17_1 (rfl) ?_
  refine x_iconst (q92c0 8 rfl) ?_
  refine x_isub (q92c0 9 rfl) s3 ?_
  refine x_istore (q92c0 10 rfl) ⟨Nat.le_of_ble_eq_true rfl, trivial⟩ ?_
  exact H
theorem g_Answers_sumWeights_19 {h : am_H} {x1 : Int} {x2 : Int} {x3 : Int} {x4 : Int} {x5 : Int} {P : am_H → Prop} (H : (x5 < 0 → P h) ∧ (0 ≤ x5 → ((0 ≤ x5 ∧ x5 < 60) ∧ ((h 19 x5 ≠ x2 → ((am_ok (x5 + (-1))) ∧ am_x (am_cd 1) 92 (am_qv P) 0 19 [some (.inr (.inr 17)), some (.inl x1), some (.inl x2), some (.inl x3), some (.inl x4), some (.inl (x5 + (-1))), none] [] h)) ∧ (h 19 x5 = x2 → ((am_and x4 (am_shl 1 (h 18 x5)) ≠ 0 → ((am_ok (x5 + (-1))) ∧ am_x (am_cd 1) 92 (am_qv P) 0 19 [some (.inr (.inr 17)), some (.inl x1), some (.inl x2), some (.inl x3), some (.inl x4), some (.inl (x5 + (-1))), none] [] h)) ∧ (am_and x4 (am_shl 1 (h 18 x5)) = 0 → (((h 21 x5 ≤ x3 ∧ (h 22 x5 = -1 ∨ x3 < h 22 x5)) → ((0 ≤ h 18 x5 ∧ h 18 x5 < 20) ∧ ((h 8 (h 18 x5) ≠ x1 → ((am_ok (x5 + (-1))) ∧ am_x (am_cd 1) 92 (am_qv P) 0 19 [some (.inr (.inr 17)), some (.inl x1), some (.inl x2), some (.inl x3), some (.inl (am_or x4 (am_shl 1 (h 18 x5)))), some (.inl (x5 + (-1))), none] [] h)) ∧ (h 8 (h 18 x5) = x1 → ((0 ≤ h 20 x5 ∧ h 20 x5 < 30) ∧ (∃ a13 h12, am_cd 1 16 [.inr (.inr 7), .inl (h 18 x5)] h (some (.inl a13)) h12 ∧ ((am_ok (h 23 (h 20 x5) + a13) ∧ am_ok (x5 + (-1))) ∧ am_x (am_cd 1) 92 (am_qv P) 0 19 [some (.inr (.inr 17)), some (.inl x1), some (.inl x2), some (.inl x3), some (.inl (am_or x4 (am_shl 1 (h 18 x5)))), some (.inl (x5 + (-1))), none] [] (am_up h12 23 (h 20 x5) (h 23 (h 20 x5) + a13))))))))) ∧ ((¬(h 21 x5 ≤ x3 ∧ (h 22 x5 = -1 ∨ x3 < h 22 x5))) → ((am_ok (x5 + (-1))) ∧ am_x (am_cd 1) 92 (am_qv P) 0 19 [some (.inr (.inr 17)), some (.inl x1), some (.inl x2), some (.inl x3), some (.inl x4), some (.inl (x5 + (-1))), none] [] h)))))))))) : am_x (am_cd 1) 92 (am_qv P) 0 19 [some (.inr (.inr 17)), some (.inl x1), some (.inl x2), some (.inl x3), some (.inl x4), some (.inl x5), none] [] h := by
  refine x_iload (q92c0 11 rfl) rfl ?_
  refine x_if_lt (q92c0 12 rfl) (fun c1 => ?_) (fun c1 => ?_)
  · replace H := H.1 c1
    exact x_ret (q92c1 7 rfl) H
  · replace H := H.2 c1
    obtain ⟨s2, H⟩ := H
    refine x_iconst (q92c0 13 rfl) ?_
    refine x_aload_n (q92c0 14 rfl) rfl ?_
    refine x_getr (q92c0 15 rfl) fd17_2 ?_
    refine x_iload (q92c0 16 rfl) rfl ?_
    refine x_iaload (q92c0 17 rfl) (al18 _) rfl (ag_l rfl rfl (rfl)) s2 ?_
    refine x_ishl (q92c0 18 rfl) ?_
    refine x_istore (q92c0 19 rfl) ⟨Nat.le_of_ble_eq_true rfl, trivial⟩ ?_
    refine x_aload_n (q92c0 20 rfl) rfl ?_
    refine x_getr (q92c0 21 rfl) fd17_3 ?_
    refine x_iload (q92c0 22 rfl) rfl ?_
    refine x_iaload (q92c0 23 rfl) (al19 _) rfl (ag_l rfl rfl (rfl)) s2 ?_
    refine x_iload_n (q92c0 24 rfl) rfl ?_
    refine x_icmp_ne (q92c0 25 rfl) (fun c3 => ?_) (fun c3 => ?_)
    · replace H := H.1 c3
      obtain ⟨s4, H⟩ := H
      refine x_iinc (q92c1 5 rfl) rfl ⟨Nat.le_of_ble_eq_true rfl, trivial⟩ s4 ?_
      refine x_goto (q92c1 6 rfl) ?_
      exact am_x_weak (ls' := [some (.inr (.inr 17)), some (.inl x1), some (.inl x2), some (.inl x3), some (.inl x4), some (.inl (x5 + (-1))), some (.inl (am_shl 1 (h 18 x5)))]) (lle_c (lle_c (lle_c (lle_c (lle_c (lle_c (lle_d trivial (lle_nil)))))))) H
    · replace H := H.2 c3
      refine x_iload (q92c0 26 rfl) rfl ?_
      refine x_iload (q92c0 27 rfl) rfl ?_
      refine x_iand (q92c0 28 rfl) ?_
      refine x_if_ne (q92c0 29 rfl) (fun c5 => ?_) (fun c5 => ?_)
      · replace H := H.1 c5
        obtain ⟨s6, H⟩ := H
        refine x_iinc (q92c1 5 rfl) rfl ⟨Nat.le_of_ble_eq_true rfl, trivial⟩ s6 ?_
        refine x_goto (q92c1 6 rfl) ?_
        exact am_x_weak (ls' := [some (.inr (.inr 17)), some (.inl x1), some (.inl x2), some (.inl x3), some (.inl x4), some (.inl (x5 + (-1))), some (.inl (am_shl 1 (h 18 x5)))]) (lle_c (lle_c (lle_c (lle_c (lle_c (lle_c (lle_d trivial (lle_nil)))))))) H
      · replace H := H.2 c5
        refine x_aload_n (q92c0 30 rfl) rfl ?_
        refine x_iload (q92c0 31 rfl) rfl ?_
        refine x_iload_n (q92c0 32 rfl) rfl ?_
        refine x_cvi (q92c0 33 rfl) rfl oc17 rfl (Nat.le_of_ble_eq_true rfl) (am_lifti (Nat.le_of_ble_eq_true rfl) (e_Answers_isKnown (r1 := h 21 x5) (r2 := h 22 x5) (rfl) (rfl) ?_))
        refine ⟨s2, ?_⟩
        refine ⟨fun c7 => ?_, fun c7 => ?_⟩
        · replace H := H.1 c7
          refine x_if_eq_f (q92c0 34 rfl) (by decide) ?_
          refine x_iload (q92c0 35 rfl) rfl ?_
          refine x_iload (q92c0 36 rfl) rfl ?_
          refine x_ior (q92c0 37 rfl) ?_
          refine x_istore (q92c0 38 rfl) ⟨Nat.le_of_ble_eq_true rfl, trivial⟩ ?_
          refine x_aload_n (q92c0 39 rfl) rfl ?_
          refine x_getr (q92c0 40 rfl) fd17_0 ?_
          refine x_aload_n (q92c0 41 rfl) rfl ?_
          refine x_getr (q92c0 42 rfl) fd17_2 ?_
          refine x_iload (q92c0 43 rfl) rfl ?_
          refine x_iaload (q92c0 44 rfl) (al18 _) rfl (ag_l rfl rfl (rfl)) s2 ?_
          refine x_cvi (q92c0 45 rfl) rfl oc7 rfl (Nat.le_of_ble_eq_true rfl) (am_lifti (Nat.le_of_ble_eq_true rfl) (e_Asked_homeOf (r1 := h 8 (h 18 x5)) (rfl) ?_))
          obtain ⟨s8, H⟩ := H
          refine ⟨s8, ?_⟩
          refine x_iload_n (q92c0 46 rfl) rfl ?_
          refine x_icmp_ne (q92c0 47 rfl) (fun c9 => ?_) (fun c9 => ?_)
          · replace H := H.1 c9
            obtain ⟨s10, H⟩ := H
            refine x_iinc (q92c1 5 rfl) rfl ⟨Nat.le_of_ble_eq_true rfl, trivial⟩ s10 ?_
            refine x_goto (q92c1 6 rfl) ?_
            exact am_x_weak (ls' := [some (.inr (.inr 17)), some (.inl x1), some (.inl x2), some (.inl x3), some (.inl (am_or x4 (am_shl 1 (h 18 x5)))), some (.inl (x5 + (-1))), some (.inl (am_shl 1 (h 18 x5)))]) (lle_c (lle_c (lle_c (lle_c (lle_c (lle_c (lle_d trivial (lle_nil)))))))) H
          · replace H := H.2 c9
            obtain ⟨s11, H⟩ := H
            refine x_aload_n (q92c0 48 rfl) rfl ?_
            refine x_getr (q92c0 49 rfl) fd17_7 ?_
            refine x_aload_n (q92c0 50 rfl) rfl ?_
            refine x_getr (q92c0 51 rfl) fd17_4 ?_
            refine x_iload (q92c0 52 rfl) rfl ?_
            refine x_iaload (q92c0 53 rfl) (al20 _) rfl (ag_l rfl rfl (rfl)) s2 ?_
            refine x_dup2 (q92c0 54 rfl) ⟨trivial, trivial⟩ ?_
            refine x_iaload (q92c0 55 rfl) (al23 _) rfl (ag_l rfl rfl (rfl)) s11 ?_
            refine x_aload_n (q92c0 56 rfl) rfl ?_
            refine x_getr (q92c0 57 rfl) fd17_0 ?_
            refine x_aload_n (q92c0 58 rfl) rfl ?_
            refine x_getr (q92c0 59 rfl) fd17_2 ?_
            refine x_iload (q92c1 0 rfl) rfl ?_
            refine x_iaload (q92c1 1 rfl) (al18 _) rfl (ag_l rfl rfl (rfl)) s2 ?_
            obtain ⟨a13, h12, w14, H⟩ := H
            refine x_cvi (q92c1 2 rfl) rfl oc7 rfl (Nat.le_of_ble_eq_true rfl) ⟨a13, h12, w14, ?_⟩
            obtain ⟨⟨s15, s16⟩, H⟩ := H
            refine x_iadd (q92c1 3 rfl) s15 ?_
            refine x_iastore (q92c1 4 rfl) (al23 _) rfl (Nat.le_of_ble_eq_true rfl) s11 (j := h 20 x5) rfl ?_
            refine x_iinc (q92c1 5 rfl) rfl ⟨Nat.le_of_ble_eq_true rfl, trivial⟩ s16 ?_
            refine x_goto (q92c1 6 rfl) ?_
            exact am_x_weak (ls' := [some (.inr (.inr 17)), some (.inl x1), some (.inl x2), some (.inl x3), some (.inl (am_or x4 (am_shl 1 (h 18 x5)))), some (.inl (x5 + (-1))), some (.inl (am_shl 1 (h 18 x5)))]) (lle_c (lle_c (lle_c (lle_c (lle_c (lle_c (lle_d trivial (lle_nil)))))))) H
        · replace H := H.2 c7
          obtain ⟨s17, H⟩ := H
          refine x_if_eq_t (q92c0 34 rfl) (by decide) ?_
          refine x_iinc (q92c1 5 rfl) rfl ⟨Nat.le_of_ble_eq_true rfl, trivial⟩ s17 ?_
          refine x_goto (q92c1 6 rfl) ?_
          exact am_x_weak (ls' := [some (.inr (.inr 17)), some (.inl x1), some (.inl x2), some (.inl x3), some (.inl x4), some (.inl (x5 + (-1))), some (.inl (am_shl 1 (h 18 x5)))]) (lle_c (lle_c (lle_c (lle_c (lle_c (lle_c (lle_d trivial (lle_nil)))))))) H
theorem e_Border_heightOf {h : am_H} {x1 : Int} {x2 : Int} {r1 r2 : Int} (hr1 : h 2 x1 = r1) (hr2 : h 3 x1 = r2) {P : Int → am_H → Prop} (H : (0 ≤ x2 ∧ x2 < 8) ∧ ((0 ≤ x1 ∧ x1 < 12) ∧ ((am_ok (am_ct 2002 x2 * r1)) ∧ ((am_ok (am_ct 2003 x2 * r2) ∧ am_ok (am_ct 2002 x2 * r1 + am_ct 2003 x2 * r2)) ∧ P (am_ct 2002 x2 * r1 + am_ct 2003 x2 * r2) h)))) : ∃ a h1, am_cd 2 93 [.inr (.inr 32), .inl x1, .inl x2] h (some (.inl a)) h1 ∧ P a h1 := by
  refine am_outi (d := 1) (ls := [some (.inr (.inr 32)), some (.inl x1), some (.inl x2)]) rfl ab93 ml93 (Nat.le_of_ble_eq_true rfl) np93 rfl ?_
  obtain ⟨s1, H⟩ := H
  refine x_gets (q93c0 0 rfl) ?_
  refine x_iload_n (q93c0 1 rfl) rfl ?_
  refine x_iaload (q93c0 2 rfl) (al2002 _) rfl (ag_s rfl) s1 ?_
  refine x_aload_n (q93c0 3 rfl) rfl ?_
  refine x_getr (q93c0 4 rfl) fd32_0 ?_
  refine x_iload_n (q93c0 5 rfl) rfl ?_
  refine x_cvi (q93c0 6 rfl) rfl oc1 rfl (Nat.le_of_ble_eq_true rfl) (am_lifti (Nat.le_of_ble_eq_true rfl) (e_Land_xOf (r1 := r1) (hr1) ?_))
  obtain ⟨s2, H⟩ := H
  refine ⟨s2, ?_⟩
  obtain ⟨s3, H⟩ := H
  refine x_imul (q93c0 7 rfl) s3 ?_
  refine x_gets (q93c0 8 rfl) ?_
  refine x_iload_n (q93c0 9 rfl) rfl ?_
  refine x_iaload (q93c0 10 rfl) (al2003 _) rfl (ag_s rfl) s1 ?_
  refine x_aload_n (q93c0 11 rfl) rfl ?_
  refine x_getr (q93c0 12 rfl) fd32_0 ?_
  refine x_iload_n (q93c0 13 rfl) rfl ?_
  refine x_cvi (q93c0 14 rfl) rfl oc1 rfl (Nat.le_of_ble_eq_true rfl) (am_lifti (Nat.le_of_ble_eq_true rfl) (e_Land_yOf (r1 := r2) (hr2) ?_))
  refine ⟨s2, ?_⟩
  obtain ⟨⟨s4, s5⟩, H⟩ := H
  refine x_imul (q93c0 15 rfl) s4 ?_
  refine x_iadd (q93c0 16 rfl) s5 ?_
  exact x_ireti (q93c0 17 rfl) zb93 H
theorem e_Dialects_leastRest {h : am_H} {x1 : Int} {x2 : Int} {x3 : Int} {P : Int → am_H → Prop} (H : am_x (am_cd 1) 94 (am_qi P) 0 6 [some (.inr (.inr 33)), none, some (.inl x2), some (.inl x3), some (.inl 0), some (.inl x1), none, none] [] h) : ∃ a h1, am_cd 2 94 [.inr (.inr 33), .inl x1, .inl x2, .inl x3] h (some (.inl a)) h1 ∧ P a h1 := by
  refine am_outi (d := 1) (ls := [some (.inr (.inr 33)), some (.inl x1), some (.inl x2), some (.inl x3), none, none, none, none]) rfl ab94 ml94 (Nat.le_of_ble_eq_true rfl) np94 rfl ?_
  refine x_iconst (q94c0 0 rfl) ?_
  refine x_istore (q94c0 1 rfl) ⟨Nat.le_of_ble_eq_true rfl, trivial⟩ ?_
  refine x_iload_n (q94c0 2 rfl) rfl ?_
  refine x_istore (q94c0 3 rfl) ⟨Nat.le_of_ble_eq_true rfl, trivial⟩ ?_
  exact am_x_weak (ls' := [some (.inr (.inr 33)), some (.inl x1), some (.inl x2), some (.inl x3), some (.inl 0), some (.inl x1), none, none]) (lle_c (lle_d trivial (lle_c (lle_c (lle_c (lle_c (lle_c (lle_c (lle_nil))))))))) H
theorem g_Dialects_leastRest_6 {h : am_H} {x2 : Int} {x3 : Int} {x4 : Int} {x5 : Int} {P : Int → am_H → Prop} (H : (h 33 9 ≤ x5 → P x4 h) ∧ (x5 < h 33 9 → ((x2 ≠ x3 → P x4 h) ∧ (x2 = x3 → am_x (am_cd 1) 94 (am_qi P) 0 27 [some (.inr (.inr 33)), none, some (.inl x2), some (.inl x3), some (.inl x4), some (.inl x5), some (.inl 1000000), some (.inl 0)] [] h)))) : am_x (am_cd 1) 94 (am_qi P) 0 6 [some (.inr (.inr 33)), none, some (.inl x2), some (.inl x3), some (.inl x4), some (.inl x5), none, none] [] h := by
  refine x_iload (q94c0 4 rfl) rfl ?_
  refine x_aload_n (q94c0 5 rfl) rfl ?_
  refine x_getf (q94c0 6 rfl) fd33_9 (rfl) ?_
  refine x_icmp_ge (q94c0 7 rfl) (fun c1 => ?_) (fun c1 => ?_)
  · replace H := H.1 c1
    refine x_iload (q94c0 37 rfl) rfl ?_
    exact x_ireti (q94c0 38 rfl) zb94 H
  · replace H := H.2 c1
    refine x_iload_n (q94c0 8 rfl) rfl ?_
    refine x_iload_n (q94c0 9 rfl) rfl ?_
    refine x_icmp_ne (q94c0 10 rfl) (fun c2 => ?_) (fun c2 => ?_)
    · replace H := H.1 c2
      refine x_iload (q94c0 37 rfl) rfl ?_
      exact x_ireti (q94c0 38 rfl) zb94 H
    · replace H := H.2 c2
      refine x_ldc (q94c0 11 rfl) ?_
      refine x_istore (q94c0 12 rfl) ⟨Nat.le_of_ble_eq_true rfl, trivial⟩ ?_
      refine x_iconst (q94c0 13 rfl) ?_
      refine x_istore (q94c0 14 rfl) ⟨Nat.le_of_ble_eq_true rfl, trivial⟩ ?_
      exact H
theorem g_Dialects_leastRest_27 {h : am_H} {x2 : Int} {x3 : Int} {x4 : Int} {x5 : Int} {x6 : Int} {x7 : Int} {P : Int → am_H → Prop} (H : (x3 ≤ x7 → ((am_ok (x4 + x6) ∧ am_ok (x5 + 1)) ∧ am_x (am_cd 1) 94 (am_qi P) 0 6 [some (.inr (.inr 33)), none, some (.inl x2), some (.inl x3), some (.inl (x4 + x6)), some (.inl (x5 + 1)), none, none] [] h)) ∧ (x7 < x3 → ((am_ok (x5 * 4) ∧ am_ok (x5 * 4 + x7) ∧ (0 ≤ x5 * 4 + x7 ∧ x5 * 4 + x7 < 40)) ∧ ((am_ok (x7 + 1)) ∧ am_x (am_cd 1) 94 (am_qi P) 0 27 [some (.inr (.inr 33)), none, some (.inl x2), some (.inl x3), some (.inl x4), some (.inl x5), some (.inl (min x6 (h 36 (4 * x5 + x7)))), some (.inl (x7 + 1))] [] h)))) : am_x (am_cd 1) 94 (am_qi P) 0 27 [some (.inr (.inr 33)), none, some (.inl x2), some (.inl x3), some (.inl x4), some (.inl x5), some (.inl x6), some (.inl x7)] [] h := by
  refine x_iload (q94c0 15 rfl) rfl ?_
  refine x_iload_n (q94c0 16 rfl) rfl ?_
  refine x_icmp_ge (q94c0 17 rfl) (fun c1 => ?_) (fun c1 => ?_)
  · replace H := H.1 c1
    obtain ⟨⟨s2, s3⟩, H⟩ := H
    refine x_iload (q94c0 31 rfl) rfl ?_
    refine x_iload (q94c0 32 rfl) rfl ?_
    refine x_iadd (q94c0 33 rfl) s2 ?_
    refine x_istore (q94c0 34 rfl) ⟨Nat.le_of_ble_eq_true rfl, trivial⟩ ?_
    refine x_iinc (q94c0 35 rfl) rfl ⟨Nat.le_of_ble_eq_true rfl, trivial⟩ s3 ?_
    refine x_goto (q94c0 36 rfl) ?_
    exact am_x_weak (ls' := [some (.inr (.inr 33)), none, some (.inl x2), some (.inl x3), some (.inl (x4 + x6)), some (.inl (x5 + 1)), some (.inl x6), some (.inl x7)]) (lle_c (lle_c (lle_c (lle_c (lle_c (lle_c (lle_d trivial (lle_d trivial (lle_nil))))))))) H
  · replace H := H.2 c1
    obtain ⟨⟨s4, s5, s6⟩, H⟩ := H
    refine x_iload (q94c0 18 rfl) rfl ?_
    refine x_aload_n (q94c0 19 rfl) rfl ?_
    refine x_getr (q94c0 20 rfl) fd33_5 ?_
    refine x_iload (q94c0 21 rfl) rfl ?_
    refine x_iconst (q94c0 22 rfl) ?_
    refine x_imul (q94c0 23 rfl) s4 ?_
    refine x_iload (q94c0 24 rfl) rfl ?_
    refine x_iadd (q94c0 25 rfl) s5 ?_
    refine x_iaload (q94c0 26 rfl) (al36 _) rfl (ag_l (j1 := 4 * x5 + x7) rfl (by omega) (rfl)) s6 ?_
    refine x_csi (q94c0 27 rfl) rfl rfl rfl (Nat.le_of_ble_eq_true rfl) (am_lifti (Nat.le_of_ble_eq_true rfl) (e_Math_min   ?_))
    obtain ⟨s7, H⟩ := H
    refine x_istore (q94c0 28 rfl) ⟨Nat.le_of_ble_eq_true rfl, trivial⟩ ?_
    refine x_iinc (q94c0 29 rfl) rfl ⟨Nat.le_of_ble_eq_true rfl, trivial⟩ s7 ?_
    refine x_goto (q94c0 30 rfl) ?_
    exact H
theorem e_Forms_isLike {h : am_H} {x1 : Int} (p2 : Nat) (n2 : Nat) (hal2 : ∀ h : am_H, am_al h p2 = some n2) (hlo2 : p2 < 1000) {x3 : Int} {P : Int → am_H → Prop} (H : (0 ≤ x1 ∧ x1 < 30) ∧ ((h 12 x1 = x3 → am_x (am_cd 1) 95 (am_qi P) 0 15 [some (.inr (.inr 11)), some (.inl x1), some (.inr (.inr p2)), some (.inl x3), some (.inl 0)] [] h) ∧ (h 12 x1 ≠ x3 → P 0 h))) : ∃ a h1, am_cd 2 95 [.inr (.inr 11), .inl x1, .inr (.inr p2), .inl x3] h (some (.inl a)) h1 ∧ P a h1 := by
  refine am_outi (d := 1) (ls := [some (.inr (.inr 11)), some (.inl x1), some (.inr (.inr p2)), some (.inl x3), none]) rfl ab95 ml95 (Nat.le_of_ble_eq_true rfl) np95 rfl ?_
  obtain ⟨s1, H⟩ := H
  refine x_aload_n (q95c0 0 rfl) rfl ?_
  refine x_getr (q95c0 1 rfl) fd11_1 ?_
  refine x_iload_n (q95c0 2 rfl) rfl ?_
  refine x_iaload (q95c0 3 rfl) (al12 _) rfl (ag_l rfl rfl (rfl)) s1 ?_
  refine x_iload_n (q95c0 4 rfl) rfl ?_
  refine x_icmp_eq (q95c0 5 rfl) (fun c2 => ?_) (fun c2 => ?_)
  · replace H := H.1 c2
    refine x_iconst (q95c0 8 rfl) ?_
    refine x_istore (q95c0 9 rfl) ⟨Nat.le_of_ble_eq_true rfl, trivial⟩ ?_
    exact H
  · replace H := H.2 c2
    refine x_iconst (q95c0 6 rfl) ?_
    exact x_iretz (q95c0 7 rfl) (.inl rfl) H
theorem g_Forms_isLike_15 {h : am_H} {x1 : Int} {x3 : Int} {x4 : Int} (p2 : Nat) (n2 : Nat) (hal2 : ∀ h : am_H, am_al h p2 = some n2) (hlo2 : p2 < 1000) {P : Int → am_H → Prop} (H : (x3 ≤ x4 → P 1 h) ∧ (x4 < x3 → ((am_ok (x1 * 8) ∧ am_ok (x1 * 8 + x4) ∧ (0 ≤ x1 * 8 + x4 ∧ x1 * 8 + x4 < 240)) ∧ ((0 ≤ x4 ∧ x4 < (n2 : Int)) ∧ ((h 13 (8 * x1 + x4) = h p2 x4 → ((am_ok (x4 + 1)) ∧ am_x (am_cd 1) 95 (am_qi P) 0 15 [some (.inr (.inr 11)), some (.inl x1), some (.inr (.inr p2)), some (.inl x3), some (.inl (x4 + 1))] [] h)) ∧ (h 13 (8 * x1 + x4) ≠ h p2 x4 → P 0 h)))))) : am_x (am_cd 1) 95 (am_qi P) 0 15 [some (.inr (.inr 11)), some (.inl x1), some (.inr (.inr p2)), some (.inl x3), some (.inl x4)] [] h := by
  refine x_iload (q95c0 10 rfl) rfl ?_
  refine x_iload_n (q95c0 11 rfl) rfl ?_
  refine x_icmp_ge (q95c0 12 rfl) (fun c1 => ?_) (fun c1 => ?_)
  · replace H := H.1 c1
    refine x_iconst (q95c0 25 rfl) ?_
    exact x_iretz (q95c0 26 rfl) (.inr rfl) H
  · replace H := H.2 c1
    refine x_aload_n (q95c0 13 rfl) rfl ?_
    refine x_iload_n (q95c0 14 rfl) rfl ?_
    refine x_iload (q95c0 15 rfl) rfl ?_
    refine x_cvi (q95c0 16 rfl) rfl oc11 rfl (Nat.le_of_ble_eq_true rfl) (am_lifti (Nat.le_of_ble_eq_true rfl) (e_Forms_soundOf (r1 := h 13 (8 * x1 + x4)) (rfl) ?_))
    obtain ⟨⟨s2, s3, s4⟩, H⟩ := H
    refine ⟨⟨s2, s3, s4⟩, ?_⟩
    obtain ⟨s5, H⟩ := H
    refine x_aload_n (q95c0 17 rfl) rfl ?_
    refine x_iload (q95c0 18 rfl) rfl ?_
    refine x_iaload (q95c0 19 rfl) (hal2 _) rfl (ag_n hlo2 rfl (rfl)) s5 ?_
    refine x_icmp_eq (q95c0 20 rfl) (fun c6 => ?_) (fun c6 => ?_)
    · replace H := H.1 c6
      obtain ⟨s7, H⟩ := H
      refine x_iinc (q95c0 23 rfl) rfl ⟨Nat.le_of_ble_eq_true rfl, trivial⟩ s7 ?_
      refine x_goto (q95c0 24 rfl) ?_
      exact H
    · replace H := H.2 c6
      refine x_iconst (q95c0 21 rfl) ?_
      exact x_iretz (q95c0 22 rfl) (.inl rfl) H
theorem e_Forms_measure {h : am_H} {x1 : Int} {x2 : Int} {P : Int → am_H → Prop} (H : (0 ≤ x2 ∧ x2 < 30) ∧ am_x (am_cd 1) 96 (am_qi P) 0 10 [some (.inr (.inr 11)), some (.inl x1), some (.inl x2), some (.inl (h 12 x2)), some (.inl 0), none, none, none] [] h) : ∃ a h1, am_cd 2 96 [.inr (.inr 11), .inl x1, .inl x2] h (some (.inl a)) h1 ∧ P a h1 := by
  refine am_outi (d := 1) (ls := [some (.inr (.inr 11)), some (.inl x1), some (.inl x2), none, none, none, none, none]) rfl ab96 ml96 (Nat.le_of_ble_eq_true rfl) np96 rfl ?_
  obtain ⟨s1, H⟩ := H
  refine x_aload_n (q96c0 0 rfl) rfl ?_
  refine x_getr (q96c0 1 rfl) fd11_1 ?_
  refine x_iload_n (q96c0 2 rfl) rfl ?_
  refine x_iaload (q96c0 3 rfl) (al12 _) rfl (ag_l rfl rfl (rfl)) s1 ?_
  refine x_istore_n (q96c0 4 rfl) ⟨Nat.le_of_ble_eq_true rfl, trivial⟩ ?_
  refine x_iconst (q96c0 5 rfl) ?_
  refine x_istore (q96c0 6 rfl) ⟨Nat.le_of_ble_eq_true rfl, trivial⟩ ?_
  exact H
theorem g_Forms_measure_10 {h : am_H} {x1 : Int} {x2 : Int} {x3 : Int} {x4 : Int} {P : Int → am_H → Prop} (H : (x3 < x4 → am_x (am_cd 1) 96 (am_qi P) 0 36 [some (.inr (.inr 11)), some (.inl x1), some (.inl x2), some (.inl x3), some (.inl 0), none, none, none] [] h) ∧ (x4 ≤ x3 → ((am_ok (2 * x4) ∧ (0 ≤ x4 ∧ x4 < 9) ∧ am_ok (x4 + 1)) ∧ am_x (am_cd 1) 96 (am_qi P) 0 10 [some (.inr (.inr 11)), some (.inl x1), some (.inl x2), some (.inl x3), some (.inl (x4 + 1)), none, none, none] [] (am_up h 16 x4 (2 * x4))))) : am_x (am_cd 1) 96 (am_qi P) 0 10 [some (.inr (.inr 11)), some (.inl x1), some (.inl x2), some (.inl x3), some (.inl x4), none, none, none] [] h := by
  refine x_iload (q96c0 7 rfl) rfl ?_
  refine x_iload_n (q96c0 8 rfl) rfl ?_
  refine x_icmp_gt (q96c0 9 rfl) (fun c1 => ?_) (fun c1 => ?_)
  · replace H := H.1 c1
    refine x_iconst (q96c0 19 rfl) ?_
    refine x_istore (q96c0 20 rfl) ⟨Nat.le_of_ble_eq_true rfl, trivial⟩ ?_
    exact H
  · replace H := H.2 c1
    obtain ⟨⟨s2, s3, s4⟩, H⟩ := H
    refine x_aload_n (q96c0 10 rfl) rfl ?_
    refine x_getr (q96c0 11 rfl) fd11_6 ?_
    refine x_iload (q96c0 12 rfl) rfl ?_
    refine x_iconst (q96c0 13 rfl) ?_
    refine x_iload (q96c0 14 rfl) rfl ?_
    refine x_imul (q96c0 15 rfl) s2 ?_
    refine x_iastore (q96c0 16 rfl) (al16 _) rfl (Nat.le_of_ble_eq_true rfl) s3 (j := x4) rfl ?_
    refine x_iinc (q96c0 17 rfl) rfl ⟨Nat.le_of_ble_eq_true rfl, trivial⟩ s4 ?_
    refine x_goto (q96c0 18 rfl) ?_
    exact H
theorem g_Forms_measure_36 {h : am_H} {x1 : Int} {x2 : Int} {x3 : Int} {x4 : Int} {P : Int → am_H → Prop} (H : (0 ≤ x1 ∧ x1 < 30) ∧ ((h 12 x1 ≤ x4 → ((0 ≤ x3 ∧ x3 < 9) ∧ P (h 16 x3) h)) ∧ (x4 < h 12 x1 → ((am_ok (h 16 0 + 2)) ∧ am_x (am_cd 1) 96 (am_qi P) 0 68 [some (.inr (.inr 11)), some (.inl x1), some (.inl x2), some (.inl x3), some (.inl x4), some (.inl (h 16 0)), some (.inl 0), none] [] (am_up h 16 0 (h 16 0 + 2)))))) : am_x (am_cd 1) 96 (am_qi P) 0 36 [some (.inr (.inr 11)), some (.inl x1), some (.inl x2), some (.inl x3), some (.inl x4), none, none, none] [] h := by
  obtain ⟨s1, H⟩ := H
  refine x_iload (q96c0 21 rfl) rfl ?_
  refine x_aload_n (q96c0 22 rfl) rfl ?_
  refine x_getr (q96c0 23 rfl) fd11_1 ?_
  refine x_iload_n (q96c0 24 rfl) rfl ?_
  refine x_iaload (q96c0 25 rfl) (al12 _) rfl (ag_l rfl rfl (rfl)) s1 ?_
  refine x_icmp_ge (q96c0 26 rfl) (fun c2 => ?_) (fun c2 => ?_)
  · replace H := H.1 c2
    obtain ⟨s3, H⟩ := H
    refine x_aload_n (q96c1 24 rfl) rfl ?_
    refine x_getr (q96c1 25 rfl) fd11_6 ?_
    refine x_iload_n (q96c1 26 rfl) rfl ?_
    refine x_iaload (q96c1 27 rfl) (al16 _) rfl (ag_l rfl rfl (rfl)) s3 ?_
    exact x_ireti (q96c1 28 rfl) zb96 H
  · replace H := H.2 c2
    obtain ⟨s4, H⟩ := H
    refine x_aload_n (q96c0 27 rfl) rfl ?_
    refine x_getr (q96c0 28 rfl) fd11_6 ?_
    refine x_iconst (q96c0 29 rfl) ?_
    refine x_iaload (q96c0 30 rfl) (al16 _) rfl (ag_l rfl rfl (rfl)) (by decide) ?_
    refine x_istore (q96c0 31 rfl) ⟨Nat.le_of_ble_eq_true rfl, trivial⟩ ?_
    refine x_aload_n (q96c0 32 rfl) rfl ?_
    refine x_getr (q96c0 33 rfl) fd11_6 ?_
    refine x_iconst (q96c0 34 rfl) ?_
    refine x_dup2 (q96c0 35 rfl) ⟨trivial, trivial⟩ ?_
    refine x_iaload (q96c0 36 rfl) (al16 _) rfl (ag_l rfl rfl (rfl)) (by decide) ?_
    refine x_iconst (q96c0 37 rfl) ?_
    refine x_iadd (q96c0 38 rfl) s4 ?_
    refine x_iastore (q96c0 39 rfl) (al16 _) rfl (Nat.le_of_ble_eq_true rfl) (by decide) (j := 0) rfl ?_
    refine x_iconst (q96c0 40 rfl) ?_
    refine x_istore (q96c0 41 rfl) ⟨Nat.le_of_ble_eq_true rfl, trivial⟩ ?_
    exact H
theorem g_Forms_measure_68 {h : am_H} {x1 : Int} {x2 : Int} {x3 : Int} {x4 : Int} {x5 : Int} {x6 : Int} {P : Int → am_H → Prop} (H : (x3 ≤ x6 → ((am_ok (x4 + 1)) ∧ am_x (am_cd 1) 96 (am_qi P) 0 36 [some (.inr (.inr 11)), some (.inl x1), some (.inl x2), some (.inl x3), some (.inl (x4 + 1)), none, none, none] [] h)) ∧ (x6 < x3 → ((am_ok (x1 * 8) ∧ am_ok (x1 * 8 + x4) ∧ (0 ≤ x1 * 8 + x4 ∧ x1 * 8 + x4 < 240)) ∧ ((am_ok (x2 * 8) ∧ am_ok (x2 * 8 + x6) ∧ (0 ≤ x2 * 8 + x6 ∧ x2 * 8 + x6 < 240)) ∧ (∃ a10 h9, am_cd 1 29 [.inl (h 13 (8 * x1 + x4)), .inl (h 13 (8 * x2 + x6))] h (some (.inl a10)) h9 ∧ ((am_ok (x5 + a10) ∧ am_ok (x6 + 1) ∧ (0 ≤ x6 + 1 ∧ x6 + 1 < 9) ∧ (0 ≤ x6 ∧ x6 < 9)) ∧ ((am_ok (min (h9 16 (1 + x6)) (h9 16 x6) + 2)) ∧ am_x (am_cd 1) 96 (am_qi P) 0 68 [some (.inr (.inr 11)), some (.inl x1), some (.inl x2), some (.inl x3), some (.inl x4), some (.inl (h9 16 (1 + x6))), some (.inl (x6 + 1)), none] [] (am_up h9 16 (1 + x6) (min (x5 + a10) (min (h9 16 (1 + x6)) (h9 16 x6) + 2)))))))))) : am_x (am_cd 1) 96 (am_qi P) 0 68 [some (.inr (.inr 11)), some (.inl x1), some (.inl x2), some (.inl x3), some (.inl x4), some (.inl x5), some (.inl x6), none] [] h := by
  refine x_iload (q96c0 42 rfl) rfl ?_
  refine x_iload_n (q96c0 43 rfl) rfl ?_
  refine x_icmp_ge (q96c0 44 rfl) (fun c1 => ?_) (fun c1 => ?_)
  · replace H := H.1 c1
    obtain ⟨s2, H⟩ := H
    refine x_iinc (q96c1 22 rfl) rfl ⟨Nat.le_of_ble_eq_true rfl, trivial⟩ s2 ?_
    refine x_goto (q96c1 23 rfl) ?_
    exact am_x_weak (ls' := [some (.inr (.inr 11)), some (.inl x1), some (.inl x2), some (.inl x3), some (.inl (x4 + 1)), some (.inl x5), some (.inl x6), none]) (lle_c (lle_c (lle_c (lle_c (lle_c (lle_d trivial (lle_d trivial (lle_c (lle_nil))))))))) H
  · replace H := H.2 c1
    refine x_iload (q96c0 45 rfl) rfl ?_
    refine x_aload_n (q96c0 46 rfl) rfl ?_
    refine x_iload_n (q96c0 47 rfl) rfl ?_
    refine x_iload (q96c0 48 rfl) rfl ?_
    refine x_cvi (q96c0 49 rfl) rfl oc11 rfl (Nat.le_of_ble_eq_true rfl) (am_lifti (Nat.le_of_ble_eq_true rfl) (e_Forms_soundOf (r1 := h 13 (8 * x1 + x4)) (rfl) ?_))
    obtain ⟨⟨s3, s4, s5⟩, H⟩ := H
    refine ⟨⟨s3, s4, s5⟩, ?_⟩
    refine x_aload_n (q96c0 50 rfl) rfl ?_
    refine x_iload_n (q96c0 51 rfl) rfl ?_
    refine x_iload (q96c0 52 rfl) rfl ?_
    refine x_cvi (q96c0 53 rfl) rfl oc11 rfl (Nat.le_of_ble_eq_true rfl) (am_lifti (Nat.le_of_ble_eq_true rfl) (e_Forms_soundOf (r1 := h 13 (8 * x2 + x6)) (rfl) ?_))
    obtain ⟨⟨s6, s7, s8⟩, H⟩ := H
    refine ⟨⟨s6, s7, s8⟩, ?_⟩
    obtain ⟨a10, h9, w11, H⟩ := H
    refine x_csi (q96c0 54 rfl) rfl rfl rfl (Nat.le_of_ble_eq_true rfl) ⟨a10, h9, w11, ?_⟩
    obtain ⟨⟨s12, s13, s14, s15⟩, H⟩ := H
    refine x_iadd (q96c0 55 rfl) s12 ?_
    refine x_istore (q96c0 56 rfl) ⟨Nat.le_of_ble_eq_true rfl, trivial⟩ ?_
    refine x_aload_n (q96c0 57 rfl) rfl ?_
    refine x_getr (q96c0 58 rfl) fd11_6 ?_
    refine x_iload (q96c0 59 rfl) rfl ?_
    refine x_iconst (q96c1 0 rfl) ?_
    refine x_iadd (q96c1 1 rfl) s13 ?_
    refine x_iaload (q96c1 2 rfl) (al16 _) rfl (ag_l (j1 := 1 + x6) rfl (by omega) (rfl)) s14 ?_
    refine x_istore (q96c1 3 rfl) ⟨Nat.le_of_ble_eq_true rfl, trivial⟩ ?_
    refine x_aload_n (q96c1 4 rfl) rfl ?_
    refine x_getr (q96c1 5 rfl) fd11_6 ?_
    refine x_iload (q96c1 6 rfl) rfl ?_
    refine x_iconst (q96c1 7 rfl) ?_
    refine x_iadd (q96c1 8 rfl) s13 ?_
    refine x_iload (q96c1 9 rfl) rfl ?_
    refine x_iload (q96c1 10 rfl) rfl ?_
    refine x_aload_n (q96c1 11 rfl) rfl ?_
    refine x_getr (q96c1 12 rfl) fd11_6 ?_
    refine x_iload (q96c1 13 rfl) rfl ?_
    refine x_iaload (q96c1 14 rfl) (al16 _) rfl (ag_l rfl rfl (rfl)) s15 ?_
    refine x_csi (q96c1 15 rfl) rfl rfl rfl (Nat.le_of_ble_eq_true rfl) (am_lifti (Nat.le_of_ble_eq_true rfl) (e_Math_min   ?_))
    obtain ⟨s16, H⟩ := H
    refine x_iconst (q96c1 16 rfl) ?_
    refine x_iadd (q96c1 17 rfl) s16 ?_
    refine x_csi (q96c1 18 rfl) rfl rfl rfl (Nat.le_of_ble_eq_true rfl) (am_lifti (Nat.le_of_ble_eq_true rfl) (e_Math_min   ?_))
    refine x_iastore (q96c1 19 rfl) (al16 _) rfl (Nat.le_of_ble_eq_true rfl) s14 (j := 1 + x6) (by omega) ?_
    refine x_iinc (q96c1 20 rfl) rfl ⟨Nat.le_of_ble_eq_true rfl, trivial⟩ s13 ?_
    refine x_goto (q96c1 21 rfl) ?_
    exact am_x_weak (ls' := [some (.inr (.inr 11)), some (.inl x1), some (.inl x2), some (.inl x3), some (.inl x4), some (.inl (h9 16 (1 + x6))), some (.inl (x6 + 1)), some (.inl (x5 + a10))]) (lle_c (lle_c (lle_c (lle_c (lle_c (lle_c (lle_c (lle_d trivial (lle_nil))))))))) H
theorem e_History_note {h : am_H} {x1 : Int} {x2 : Int} {x3 : Int} {P : am_H → Prop} (H : (h 51 0 ≠ 6 → (((0 ≤ h 51 0 ∧ h 51 0 < 6) ∧ am_ok (h 51 0 + 1)) ∧ P (am_up (am_up (am_up (am_up h 52 (h 51 0) x1) 53 (h 51 0) x2) 54 (h 51 0) x3) 51 0 (h 51 0 + 1)))) ∧ (h 51 0 = 6 → (∃ h4, am_cd 1 31 [.inr (.inr 51)] h none h4 ∧ (((0 ≤ h4 51 0 ∧ h4 51 0 < 6) ∧ am_ok (h4 51 0 + 1)) ∧ P (am_up (am_up (am_up (am_up h4 52 (h4 51 0) x1) 53 (h4 51 0) x2) 54 (h4 51 0) x3) 51 0 (h4 51 0 + 1)))))) : ∃ h1, am_cd 2 97 [.inr (.inr 51), .inl x1, .inl x2, .inl x3] h none h1 ∧ P h1 := by
  refine am_outv (d := 1) (ls := [some (.inr (.inr 51)), some (.inl x1), some (.inl x2), some (.inl x3)]) rfl ab97 ml97 (Nat.le_of_ble_eq_true rfl) np97 rfl ?_
  refine x_aload_n (q97c0 0 rfl) rfl ?_
  refine x_getf (q97c0 1 rfl) fd51_0 (rfl) ?_
  refine x_bipush (q97c0 2 rfl) ?_
  refine x_icmp_ne (q97c0 3 rfl) (fun c1 => ?_) (fun c1 => ?_)
  · replace H := H.1 c1
    obtain ⟨⟨s2, s3⟩, H⟩ := H
    refine x_aload_n (q97c0 6 rfl) rfl ?_
    refine x_getr (q97c0 7 rfl) fd51_1 ?_
    refine x_aload_n (q97c0 8 rfl) rfl ?_
    refine x_getf (q97c0 9 rfl) fd51_0 (rfl) ?_
    refine x_iload_n (q97c0 10 rfl) rfl ?_
    refine x_iastore (q97c0 11 rfl) (al52 _) rfl (Nat.le_of_ble_eq_true rfl) s2 (j := h 51 0) rfl ?_
    refine x_aload_n (q97c0 12 rfl) rfl ?_
    refine x_getr (q97c0 13 rfl) fd51_2 ?_
    refine x_aload_n (q97c0 14 rfl) rfl ?_
    refine x_getf (q97c0 15 rfl) fd51_0 (up_c rfl (rfl)) ?_
    refine x_iload_n (q97c0 16 rfl) rfl ?_
    refine x_iastore (q97c0 17 rfl) (al53 _) rfl (Nat.le_of_ble_eq_true rfl) s2 (j := h 51 0) rfl ?_
    refine x_aload_n (q97c0 18 rfl) rfl ?_
    refine x_getr (q97c0 19 rfl) fd51_3 ?_
    refine x_aload_n (q97c0 20 rfl) rfl ?_
    refine x_getf (q97c0 21 rfl) fd51_0 (up_c rfl (up_c rfl (rfl))) ?_
    refine x_iload_n (q97c0 22 rfl) rfl ?_
    refine x_iastore (q97c0 23 rfl) (al54 _) rfl (Nat.le_of_ble_eq_true rfl) s2 (j := h 51 0) rfl ?_
    refine x_aload_n (q97c0 24 rfl) rfl ?_
    refine x_dup (q97c0 25 rfl) trivial ?_
    refine x_getf (q97c0 26 rfl) fd51_0 (up_c rfl (up_c rfl (up_c rfl (rfl)))) ?_
    refine x_iconst (q97c0 27 rfl) ?_
    refine x_iadd (q97c0 28 rfl) s3 ?_
    refine x_putf (q97c0 29 rfl) fd51_0 ?_
    exact x_ret (q97c0 30 rfl) H
  · replace H := H.2 c1
    refine x_aload_n (q97c0 4 rfl) rfl ?_
    obtain ⟨h4, w5, H⟩ := H
    refine x_cvv (q97c0 5 rfl) rfl oc51 rfl (Nat.le_of_ble_eq_true rfl) ⟨h4, w5, ?_⟩
    obtain ⟨⟨s6, s7⟩, H⟩ := H
    refine x_aload_n (q97c0 6 rfl) rfl ?_
    refine x_getr (q97c0 7 rfl) fd51_1 ?_
    refine x_aload_n (q97c0 8 rfl) rfl ?_
    refine x_getf (q97c0 9 rfl) fd51_0 (rfl) ?_
    refine x_iload_n (q97c0 10 rfl) rfl ?_
    refine x_iastore (q97c0 11 rfl) (al52 _) rfl (Nat.le_of_ble_eq_true rfl) s6 (j := h4 51 0) rfl ?_
    refine x_aload_n (q97c0 12 rfl) rfl ?_
    refine x_getr (q97c0 13 rfl) fd51_2 ?_
    refine x_aload_n (q97c0 14 rfl) rfl ?_
    refine x_getf (q97c0 15 rfl) fd51_0 (up_c rfl (rfl)) ?_
    refine x_iload_n (q97c0 16 rfl) rfl ?_
    refine x_iastore (q97c0 17 rfl) (al53 _) rfl (Nat.le_of_ble_eq_true rfl) s6 (j := h4 51 0) rfl ?_
    refine x_aload_n (q97c0 18 rfl) rfl ?_
    refine x_getr (q97c0 19 rfl) fd51_3 ?_
    refine x_aload_n (q97c0 20 rfl) rfl ?_
    refine x_getf (q97c0 21 rfl) fd51_0 (up_c rfl (up_c rfl (rfl))) ?_
    refine x_iload_n (q97c0 22 rfl) rfl ?_
    refine x_iastore (q97c0 23 rfl) (al54 _) rfl (Nat.le_of_ble_eq_true rfl) s6 (j := h4 51 0) rfl ?_
    refine x_aload_n (q97c0 24 rfl) rfl ?_
    refine x_dup (q97c0 25 rfl) trivial ?_
    refine x_getf (q97c0 26 rfl) fd51_0 (up_c rfl (up_c rfl (up_c rfl (rfl)))) ?_
    refine x_iconst (q97c0 27 rfl) ?_
    refine x_iadd (q97c0 28 rfl) s7 ?_
    refine x_putf (q97c0 29 rfl) fd51_0 ?_
    exact x_ret (q97c0 30 rfl) H
theorem e_Land_hasAll {h : am_H} {x1 : Int} {r1 : Int} (hr1 : h 1 0 = r1) {P : Int → am_H → Prop} (H : (am_ok (am_shl 1 r1 - 1)) ∧ ((am_and x1 (am_xor (am_shl 1 r1 - 1) (-1)) = 0 → P 1 h) ∧ (am_and x1 (am_xor (am_shl 1 r1 - 1) (-1)) ≠ 0 → P 0 h))) : ∃ a h1, am_cd 2 98 [.inr (.inr 1), .inl x1] h (some (.inl a)) h1 ∧ P a h1 := by
  refine am_outi (d := 1) (ls := [some (.inr (.inr 1)), some (.inl x1)]) rfl ab98 ml98 (Nat.le_of_ble_eq_true rfl) np98 rfl ?_
  obtain ⟨z0, H⟩ := H
  refine x_iload_n (q98c0 0 rfl) rfl ?_
  refine x_aload_n (q98c0 1 rfl) rfl ?_
  refine x_cvi (q98c0 2 rfl) rfl oc1 rfl (Nat.le_of_ble_eq_true rfl) (am_lifti (Nat.le_of_ble_eq_true rfl) (e_Land_all (r1 := r1) (hr1) ?_))
  have s1 := z0
  refine ⟨s1, ?_⟩
  refine x_iconst (q98c0 3 rfl) ?_
  refine x_ixor (q98c0 4 rfl) ?_
  refine x_iand (q98c0 5 rfl) ?_
  refine x_if_ne (q98c0 6 rfl) (fun c2 => ?_) (fun c2 => ?_)
  · refine x_iconst (q98c0 9 rfl) ?_
    exact x_iretz (q98c0 10 rfl) (.inl rfl) (H.2 (by omega))
  · refine x_iconst (q98c0 7 rfl) ?_
    refine x_goto (q98c0 8 rfl) ?_
    exact x_iretz (q98c0 10 rfl) (.inr rfl) (H.1 (by omega))
theorem e_Land_lengthOf {h : am_H} {x1 : Int} {x2 : Int} {r1 : Int} (hr1 : h 5 (12 * x1 + x2) = r1) {P : Int → am_H → Prop} (H : (am_ok (x1 * 12) ∧ am_ok (x1 * 12 + x2)) ∧ ((0 ≤ x1 * 12 + x2 ∧ x1 * 12 + x2 < 144) ∧ P r1 h)) : ∃ a h1, am_cd 2 99 [.inr (.inr 1), .inl x1, .inl x2] h (some (.inl a)) h1 ∧ P a h1 := by
  refine am_outi (d := 1) (ls := [some (.inr (.inr 1)), some (.inl x1), some (.inl x2)]) rfl ab99 ml99 (Nat.le_of_ble_eq_true rfl) np99 rfl ?_
  refine x_aload_n (q99c0 0 rfl) rfl ?_
  refine x_getr (q99c0 1 rfl) fd1_4 ?_
  refine x_aload_n (q99c0 2 rfl) rfl ?_
  refine x_iload_n (q99c0 3 rfl) rfl ?_
  refine x_iload_n (q99c0 4 rfl) rfl ?_
  refine x_cvi (q99c0 5 rfl) rfl oc1 rfl (Nat.le_of_ble_eq_true rfl) (am_lifti (Nat.le_of_ble_eq_true rfl) (e_Land_pair   ?_))
  obtain ⟨⟨s1, s2⟩, H⟩ := H
  refine ⟨⟨s1, s2⟩, ?_⟩
  obtain ⟨s3, H⟩ := H
  refine x_iaload (q99c0 6 rfl) (al5 _) rfl (ag_l (j1 := 12 * x1 + x2) rfl (by omega) (hr1)) s3 ?_
  exact x_ireti (q99c0 7 rfl) zb99 H
theorem e_Land_lay {h : am_H} {x1 : Int} {x2 : Int} {x3 : Int} {P : am_H → Prop} (H : (am_ok (x1 * 12) ∧ am_ok (x1 * 12 + x2)) ∧ ((0 ≤ x1 * 12 + x2 ∧ x1 * 12 + x2 < 144) ∧ ((am_ok (x2 * 12) ∧ am_ok (x2 * 12 + x1)) ∧ ((0 ≤ x2 * 12 + x1 ∧ x2 * 12 + x1 < 144) ∧ P (am_up (am_up h 5 (12 * x1 + x2) x3) 5 (12 * x2 + x1) x3))))) : ∃ h1, am_cd 2 100 [.inr (.inr 1), .inl x1, .inl x2, .inl x3] h none h1 ∧ P h1 := by
  refine am_outv (d := 1) (ls := [some (.inr (.inr 1)), some (.inl x1), some (.inl x2), some (.inl x3)]) rfl ab100 ml100 (Nat.le_of_ble_eq_true rfl) np100 rfl ?_
  refine x_aload_n (q100c0 0 rfl) rfl ?_
  refine x_getr (q100c0 1 rfl) fd1_4 ?_
  refine x_aload_n (q100c0 2 rfl) rfl ?_
  refine x_iload_n (q100c0 3 rfl) rfl ?_
  refine x_iload_n (q100c0 4 rfl) rfl ?_
  refine x_cvi (q100c0 5 rfl) rfl oc1 rfl (Nat.le_of_ble_eq_true rfl) (am_lifti (Nat.le_of_ble_eq_true rfl) (e_Land_pair   ?_))
  obtain ⟨⟨s1, s2⟩, H⟩ := H
  refine ⟨⟨s1, s2⟩, ?_⟩
  obtain ⟨s3, H⟩ := H
  refine x_iload_n (q100c0 6 rfl) rfl ?_
  refine x_iastore (q100c0 7 rfl) (al5 _) rfl (Nat.le_of_ble_eq_true rfl) s3 (j := 12 * x1 + x2) (by omega) ?_
  refine x_aload_n (q100c0 8 rfl) rfl ?_
  refine x_getr (q100c0 9 rfl) fd1_4 ?_
  refine x_aload_n (q100c0 10 rfl) rfl ?_
  refine x_iload_n (q100c0 11 rfl) rfl ?_
  refine x_iload_n (q100c0 12 rfl) rfl ?_
  refine x_cvi (q100c0 13 rfl) rfl oc1 rfl (Nat.le_of_ble_eq_true rfl) (am_lifti (Nat.le_of_ble_eq_true rfl) (e_Land_pair   ?_))
  obtain ⟨⟨s4, s5⟩, H⟩ := H
  refine ⟨⟨s4, s5⟩, ?_⟩
  obtain ⟨s6, H⟩ := H
  refine x_iload_n (q100c0 14 rfl) rfl ?_
  refine x_iastore (q100c0 15 rfl) (al5 _) rfl (Nat.le_of_ble_eq_true rfl) s6 (j := 12 * x2 + x1) (by omega) ?_
  exact x_ret (q100c0 16 rfl) H
theorem e_Spread_takers {h : am_H} {x1 : Int} {P : Int → am_H → Prop} (H : am_x (am_cd 1) 101 (am_qi P) 0 4 [some (.inr (.inr 44)), some (.inl x1), some (.inl 0), some (.inl 0), none] [] h) : ∃ a h1, am_cd 2 101 [.inr (.inr 44), .inl x1] h (some (.inl a)) h1 ∧ P a h1 := by
  refine am_outi (d := 1) (ls := [some (.inr (.inr 44)), some (.inl x1), none, none, none]) rfl ab101 ml101 (Nat.le_of_ble_eq_true rfl) np101 rfl ?_
  refine x_iconst (q101c0 0 rfl) ?_
  refine x_istore_n (q101c0 1 rfl) ⟨Nat.le_of_ble_eq_true rfl, trivial⟩ ?_
  refine x_iconst (q101c0 2 rfl) ?_
  refine x_istore_n (q101c0 3 rfl) ⟨Nat.le_of_ble_eq_true rfl, trivial⟩ ?_
  exact H
theorem g_Spread_takers_4 {h : am_H} {x1 : Int} {x2 : Int} {x3 : Int} {P : Int → am_H → Prop} (H : (h 1 0 ≤ x3 → P x2 h) ∧ (x3 < h 1 0 → ((0 ≤ x3 ∧ x3 < 12) ∧ ((am_and x1 (am_shl 1 x3) ≠ 0 → ((am_ok (x3 + 1)) ∧ am_x (am_cd 1) 101 (am_qi P) 0 4 [some (.inr (.inr 44)), some (.inl x1), some (.inl x2), some (.inl (x3 + 1)), none] [] h)) ∧ (am_and x1 (am_shl 1 x3) = 0 → ((am_and (h 45 x3) x1 = 0 → ((am_ok (x3 + 1)) ∧ am_x (am_cd 1) 101 (am_qi P) 0 4 [some (.inr (.inr 44)), some (.inl x1), some (.inl x2), some (.inl (x3 + 1)), none] [] h)) ∧ (am_and (h 45 x3) x1 ≠ 0 → (∃ a8 h7, am_cd 1 44 [.inr (.inr 1), .inl (am_and (h 45 x3) x1)] h (some (.inl a8)) h7 ∧ ((am_ok (2 * a8)) ∧ ((2 * a8 < h7 46 x3 → ((am_ok (x3 + 1)) ∧ am_x (am_cd 1) 101 (am_qi P) 0 4 [some (.inr (.inr 44)), some (.inl x1), some (.inl x2), some (.inl (x3 + 1)), none] [] h7)) ∧ (h7 46 x3 ≤ 2 * a8 → ((am_ok (x3 + 1)) ∧ am_x (am_cd 1) 101 (am_qi P) 0 4 [some (.inr (.inr 44)), some (.inl x1), some (.inl (am_or x2 (am_shl 1 x3))), some (.inl (x3 + 1)), none] [] h7)))))))))))) : am_x (am_cd 1) 101 (am_qi P) 0 4 [some (.inr (.inr 44)), some (.inl x1), some (.inl x2), some (.inl x3), none] [] h := by
  refine x_iload_n (q101c0 4 rfl) rfl ?_
  refine x_aload_n (q101c0 5 rfl) rfl ?_
  refine x_getr (q101c0 6 rfl) fd44_0 ?_
  refine x_cvi (q101c0 7 rfl) rfl oc1 rfl (Nat.le_of_ble_eq_true rfl) (am_lifti (Nat.le_of_ble_eq_true rfl) (e_Land_size (r1 := h 1 0) (rfl) ?_))
  refine x_icmp_ge (q101c0 8 rfl) (fun c1 => ?_) (fun c1 => ?_)
  · replace H := H.1 c1
    refine x_iload_n (q101c0 43 rfl) rfl ?_
    exact x_ireti (q101c0 44 rfl) zb101 H
  · replace H := H.2 c1
    obtain ⟨s2, H⟩ := H
    refine x_aload_n (q101c0 9 rfl) rfl ?_
    refine x_getr (q101c0 10 rfl) fd44_1 ?_
    refine x_iload_n (q101c0 11 rfl) rfl ?_
    refine x_iaload (q101c0 12 rfl) (al45 _) rfl (ag_l rfl rfl (rfl)) s2 ?_
    refine x_iload_n (q101c0 13 rfl) rfl ?_
    refine x_iand (q101c0 14 rfl) ?_
    refine x_istore (q101c0 15 rfl) ⟨Nat.le_of_ble_eq_true rfl, trivial⟩ ?_
    refine x_iload_n (q101c0 16 rfl) rfl ?_
    refine x_iconst (q101c0 17 rfl) ?_
    refine x_iload_n (q101c0 18 rfl) rfl ?_
    refine x_ishl (q101c0 19 rfl) ?_
    refine x_iand (q101c0 20 rfl) ?_
    refine x_if_ne (q101c0 21 rfl) (fun c3 => ?_) (fun c3 => ?_)
    · replace H := H.1 c3
      obtain ⟨s4, H⟩ := H
      refine x_iinc (q101c0 41 rfl) rfl ⟨Nat.le_of_ble_eq_true rfl, trivial⟩ s4 ?_
      refine x_goto (q101c0 42 rfl) ?_
      exact am_x_weak (ls' := [some (.inr (.inr 44)), some (.inl x1), some (.inl x2), some (.inl (x3 + 1)), some (.inl (am_and (h 45 x3) x1))]) (lle_c (lle_c (lle_c (lle_c (lle_d trivial (lle_nil)))))) H
    · replace H := H.2 c3
      refine x_iload (q101c0 22 rfl) rfl ?_
      refine x_if_eq (q101c0 23 rfl) (fun c5 => ?_) (fun c5 => ?_)
      · replace H := H.1 c5
        obtain ⟨s6, H⟩ := H
        refine x_iinc (q101c0 41 rfl) rfl ⟨Nat.le_of_ble_eq_true rfl, trivial⟩ s6 ?_
        refine x_goto (q101c0 42 rfl) ?_
        exact am_x_weak (ls' := [some (.inr (.inr 44)), some (.inl x1), some (.inl x2), some (.inl (x3 + 1)), some (.inl (am_and (h 45 x3) x1))]) (lle_c (lle_c (lle_c (lle_c (lle_d trivial (lle_nil)))))) H
      · replace H := H.2 c5
        refine x_iconst (q101c0 24 rfl) ?_
        refine x_aload_n (q101c0 25 rfl) rfl ?_
        refine x_getr (q101c0 26 rfl) fd44_0 ?_
        refine x_iload (q101c0 27 rfl) rfl ?_
        obtain ⟨a8, h7, w9, H⟩ := H
        refine x_cvi (q101c0 28 rfl) rfl oc1 rfl (Nat.le_of_ble_eq_true rfl) ⟨a8, h7, w9, ?_⟩
        obtain ⟨s10, H⟩ := H
        refine x_imul (q101c0 29 rfl) s10 ?_
        refine x_aload_n (q101c0 30 rfl) rfl ?_
        refine x_getr (q101c0 31 rfl) fd44_2 ?_
        refine x_iload_n (q101c0 32 rfl) rfl ?_
        refine x_iaload (q101c0 33 rfl) (al46 _) rfl (ag_l rfl rfl (rfl)) s2 ?_
        refine x_icmp_lt (q101c0 34 rfl) (fun c11 => ?_) (fun c11 => ?_)
        · replace H := H.1 c11
          obtain ⟨s12, H⟩ := H
          refine x_iinc (q101c0 41 rfl) rfl ⟨Nat.le_of_ble_eq_true rfl, trivial⟩ s12 ?_
          refine x_goto (q101c0 42 rfl) ?_
          exact am_x_weak (ls' := [some (.inr (.inr 44)), some (.inl x1), some (.inl x2), some (.inl (x3 + 1)), some (.inl (am_and (h 45 x3) x1))]) (lle_c (lle_c (lle_c (lle_c (lle_d trivial (lle_nil)))))) H
        · replace H := H.2 c11
          obtain ⟨s13, H⟩ := H
          refine x_iload_n (q101c0 35 rfl) rfl ?_
          refine x_iconst (q101c0 36 rfl) ?_
          refine x_iload_n (q101c0 37 rfl) rfl ?_
          refine x_ishl (q101c0 38 rfl) ?_
          refine x_ior (q101c0 39 rfl) ?_
          refine x_istore_n (q101c0 40 rfl) ⟨Nat.le_of_ble_eq_true rfl, trivial⟩ ?_
          refine x_iinc (q101c0 41 rfl) rfl ⟨Nat.le_of_ble_eq_true rfl, trivial⟩ s13 ?_
          refine x_goto (q101c0 42 rfl) ?_
          exact am_x_weak (ls' := [some (.inr (.inr 44)), some (.inl x1), some (.inl (am_or x2 (am_shl 1 x3))), some (.inl (x3 + 1)), some (.inl (am_and (h 45 x3) x1))]) (lle_c (lle_c (lle_c (lle_c (lle_d trivial (lle_nil)))))) H
theorem e_Texts_canStand {h : am_H} {x0 : Int} {x1 : Int} {P : Int → am_H → Prop} (H : (x0 = 0 → (((97 ≤ x1 ∧ x1 ≤ 122) → P 1 h) ∧ ((¬(97 ≤ x1 ∧ x1 ≤ 122)) → P 0 h))) ∧ (x0 ≠ 0 → ((x0 = 1 → ((x1 ≠ 62 → P 0 h) ∧ (x1 = 62 → P 1 h))) ∧ (x0 ≠ 1 → ((x0 = 2 → (((97 ≤ x1 ∧ x1 ≤ 122) → P 1 h) ∧ ((¬(97 ≤ x1 ∧ x1 ≤ 122)) → ((x1 ≠ 48 → P 0 h) ∧ (x1 = 48 → P 1 h))))) ∧ (x0 ≠ 2 → ((x0 = 3 → ((x1 = 47 → P 1 h) ∧ (x1 ≠ 47 → ((x1 ≠ 59 → P 0 h) ∧ (x1 = 59 → P 1 h))))) ∧ (x0 ≠ 3 → ((x0 = 4 → (((97 ≤ x1 ∧ x1 ≤ 122) → P 1 h) ∧ ((¬(97 ≤ x1 ∧ x1 ≤ 122)) → ((x1 = 35 → P 1 h) ∧ (x1 ≠ 35 → ((x1 ≠ 42 → P 0 h) ∧ (x1 = 42 → P 1 h))))))) ∧ (x0 ≠ 4 → ((x0 = 5 → ((x1 ≠ 95 → P 0 h) ∧ (x1 = 95 → P 1 h))) ∧ (x0 ≠ 5 → ((x0 = 6 → (((97 ≤ x1 ∧ x1 ≤ 122) → P 1 h) ∧ ((¬(97 ≤ x1 ∧ x1 ≤ 122)) → ((x1 = 35 → P 1 h) ∧ (x1 ≠ 35 → ((x1 ≠ 42 → P 0 h) ∧ (x1 = 42 → P 1 h))))))) ∧ (x0 ≠ 6 → ((x1 ≠ 59 → P 0 h) ∧ (x1 = 59 → P 1 h)))))))))))))))) : ∃ a h1, am_cd 2 102 [.inl x0, .inl x1] h (some (.inl a)) h1 ∧ P a h1 := by
  refine am_outi (d := 1) (ls := [some (.inl x0), some (.inl x1)]) rfl ab102 ml102 (Nat.le_of_ble_eq_true rfl) np102 rfl ?_
  refine x_iload_n (q102c0 0 rfl) rfl ?_
  refine x_tsw (q102c0 1 rfl) (tg := 147) (ts := [44, 51, 65, 86, 120, 106, 120]) rfl rfl ?_
  refine sw_cons (fun c1 => ?_) (fun c1 => ?_)
  · replace H := H.1 c1
    refine x_iload_n (q102c0 2 rfl) rfl ?_
    refine x_csi (q102c0 3 rfl) rfl rfl rfl (Nat.le_of_ble_eq_true rfl) (am_lifti (Nat.le_of_ble_eq_true rfl) (e_Texts_isLetter   ?_))
    refine ⟨fun c2 => ?_, fun c2 => ?_⟩
    · replace H := H.1 c2
      refine x_goto (q102c0 4 rfl) ?_
      exact x_iretz (q102c0 58 rfl) (.inr rfl) H
    · replace H := H.2 c2
      refine x_goto (q102c0 4 rfl) ?_
      exact x_iretz (q102c0 58 rfl) (.inl rfl) H
  · replace H := H.2 c1
    refine sw_cons (fun c3 => ?_) (fun c3 => ?_)
    · replace H := H.1 c3
      refine x_iload_n (q102c0 5 rfl) rfl ?_
      refine x_bipush (q102c0 6 rfl) ?_
      refine x_icmp_ne (q102c0 7 rfl) (fun c4 => ?_) (fun c4 => ?_)
      · replace H := H.1 c4
        refine x_iconst (q102c0 10 rfl) ?_
        refine x_goto (q102c0 11 rfl) ?_
        exact x_iretz (q102c0 58 rfl) (.inl rfl) H
      · replace H := H.2 c4
        refine x_iconst (q102c0 8 rfl) ?_
        refine x_goto (q102c0 9 rfl) ?_
        exact x_iretz (q102c0 58 rfl) (.inr rfl) H
    · replace H := H.2 c3
      refine sw_cons (fun c5 => ?_) (fun c5 => ?_)
      · replace H := H.1 c5
        refine x_iload_n (q102c0 12 rfl) rfl ?_
        refine x_csi (q102c0 13 rfl) rfl rfl rfl (Nat.le_of_ble_eq_true rfl) (am_lifti (Nat.le_of_ble_eq_true rfl) (e_Texts_isLetter   ?_))
        refine ⟨fun c6 => ?_, fun c6 => ?_⟩
        · replace H := H.1 c6
          refine x_if_ne_t (q102c0 14 rfl) (by decide) ?_
          refine x_iconst (q102c0 18 rfl) ?_
          refine x_goto (q102c0 19 rfl) ?_
          exact x_iretz (q102c0 58 rfl) (.inr rfl) H
        · replace H := H.2 c6
          refine x_if_ne_f (q102c0 14 rfl) (by decide) ?_
          refine x_iload_n (q102c0 15 rfl) rfl ?_
          refine x_bipush (q102c0 16 rfl) ?_
          refine x_icmp_ne (q102c0 17 rfl) (fun c7 => ?_) (fun c7 => ?_)
          · replace H := H.1 c7
            refine x_iconst (q102c0 20 rfl) ?_
            refine x_goto (q102c0 21 rfl) ?_
            exact x_iretz (q102c0 58 rfl) (.inl rfl) H
          · replace H := H.2 c7
            refine x_iconst (q102c0 18 rfl) ?_
            refine x_goto (q102c0 19 rfl) ?_
            exact x_iretz (q102c0 58 rfl) (.inr rfl) H
      · replace H := H.2 c5
        refine sw_cons (fun c8 => ?_) (fun c8 => ?_)
        · replace H := H.1 c8
          refine x_iload_n (q102c0 22 rfl) rfl ?_
          refine x_bipush (q102c0 23 rfl) ?_
          refine x_icmp_eq (q102c0 24 rfl) (fun c9 => ?_) (fun c9 => ?_)
          · replace H := H.1 c9
            refine x_iconst (q102c0 28 rfl) ?_
            refine x_goto (q102c0 29 rfl) ?_
            exact x_iretz (q102c0 58 rfl) (.inr rfl) H
          · replace H := H.2 c9
            refine x_iload_n (q102c0 25 rfl) rfl ?_
            refine x_bipush (q102c0 26 rfl) ?_
            refine x_icmp_ne (q102c0 27 rfl) (fun c10 => ?_) (fun c10 => ?_)
            · replace H := H.1 c10
              refine x_iconst (q102c0 30 rfl) ?_
              refine x_goto (q102c0 31 rfl) ?_
              exact x_iretz (q102c0 58 rfl) (.inl rfl) H
            · replace H := H.2 c10
              refine x_iconst (q102c0 28 rfl) ?_
              refine x_goto (q102c0 29 rfl) ?_
              exact x_iretz (q102c0 58 rfl) (.inr rfl) H
        · replace H := H.2 c8
          refine sw_cons (fun c11 => ?_) (fun c11 => ?_)
          · replace H := H.1 c11
            refine x_iload_n (q102c0 39 rfl) rfl ?_
            refine x_csi (q102c0 40 rfl) rfl rfl rfl (Nat.le_of_ble_eq_true rfl) (am_lifti (Nat.le_of_ble_eq_true rfl) (e_Texts_isLetter   ?_))
            refine ⟨fun c12 => ?_, fun c12 => ?_⟩
            · replace H := H.1 c12
              refine x_if_ne_t (q102c0 41 rfl) (by decide) ?_
              refine x_iconst (q102c0 48 rfl) ?_
              refine x_goto (q102c0 49 rfl) ?_
              exact x_iretz (q102c0 58 rfl) (.inr rfl) H
            · replace H := H.2 c12
              refine x_if_ne_f (q102c0 41 rfl) (by decide) ?_
              refine x_iload_n (q102c0 42 rfl) rfl ?_
              refine x_bipush (q102c0 43 rfl) ?_
              refine x_icmp_eq (q102c0 44 rfl) (fun c13 => ?_) (fun c13 => ?_)
              · replace H := H.1 c13
                refine x_iconst (q102c0 48 rfl) ?_
                refine x_goto (q102c0 49 rfl) ?_
                exact x_iretz (q102c0 58 rfl) (.inr rfl) H
              · replace H := H.2 c13
                refine x_iload_n (q102c0 45 rfl) rfl ?_
                refine x_bipush (q102c0 46 rfl) ?_
                refine x_icmp_ne (q102c0 47 rfl) (fun c14 => ?_) (fun c14 => ?_)
                · replace H := H.1 c14
                  refine x_iconst (q102c0 50 rfl) ?_
                  refine x_goto (q102c0 51 rfl) ?_
                  exact x_iretz (q102c0 58 rfl) (.inl rfl) H
                · replace H := H.2 c14
                  refine x_iconst (q102c0 48 rfl) ?_
                  refine x_goto (q102c0 49 rfl) ?_
                  exact x_iretz (q102c0 58 rfl) (.inr rfl) H
          · replace H := H.2 c11
            refine sw_cons (fun c15 => ?_) (fun c15 => ?_)
            · replace H := H.1 c15
              refine x_iload_n (q102c0 32 rfl) rfl ?_
              refine x_bipush (q102c0 33 rfl) ?_
              refine x_icmp_ne (q102c0 34 rfl) (fun c16 => ?_) (fun c16 => ?_)
              · replace H := H.1 c16
                refine x_iconst (q102c0 37 rfl) ?_
                refine x_goto (q102c0 38 rfl) ?_
                exact x_iretz (q102c0 58 rfl) (.inl rfl) H
              · replace H := H.2 c16
                refine x_iconst (q102c0 35 rfl) ?_
                refine x_goto (q102c0 36 rfl) ?_
                exact x_iretz (q102c0 58 rfl) (.inr rfl) H
            · replace H := H.2 c15
              refine sw_cons (fun c17 => ?_) (fun c17 => ?_)
              · replace H := H.1 c17
                refine x_iload_n (q102c0 39 rfl) rfl ?_
                refine x_csi (q102c0 40 rfl) rfl rfl rfl (Nat.le_of_ble_eq_true rfl) (am_lifti (Nat.le_of_ble_eq_true rfl) (e_Texts_isLetter   ?_))
                refine ⟨fun c18 => ?_, fun c18 => ?_⟩
                · replace H := H.1 c18
                  refine x_if_ne_t (q102c0 41 rfl) (by decide) ?_
                  refine x_iconst (q102c0 48 rfl) ?_
                  refine x_goto (q102c0 49 rfl) ?_
                  exact x_iretz (q102c0 58 rfl) (.inr rfl) H
                · replace H := H.2 c18
                  refine x_if_ne_f (q102c0 41 rfl) (by decide) ?_
                  refine x_iload_n (q102c0 42 rfl) rfl ?_
                  refine x_bipush (q102c0 43 rfl) ?_
                  refine x_icmp_eq (q102c0 44 rfl) (fun c19 => ?_) (fun c19 => ?_)
                  · replace H := H.1 c19
                    refine x_iconst (q102c0 48 rfl) ?_
                    refine x_goto (q102c0 49 rfl) ?_
                    exact x_iretz (q102c0 58 rfl) (.inr rfl) H
                  · replace H := H.2 c19
                    refine x_iload_n (q102c0 45 rfl) rfl ?_
                    refine x_bipush (q102c0 46 rfl) ?_
                    refine x_icmp_ne (q102c0 47 rfl) (fun c20 => ?_) (fun c20 => ?_)
                    · replace H := H.1 c20
                      refine x_iconst (q102c0 50 rfl) ?_
                      refine x_goto (q102c0 51 rfl) ?_
                      exact x_iretz (q102c0 58 rfl) (.inl rfl) H
                    · replace H := H.2 c20
                      refine x_iconst (q102c0 48 rfl) ?_
                      refine x_goto (q102c0 49 rfl) ?_
                      exact x_iretz (q102c0 58 rfl) (.inr rfl) H
              · replace H := H.2 c17
                refine sw_nil ?_
                refine x_iload_n (q102c0 52 rfl) rfl ?_
                refine x_bipush (q102c0 53 rfl) ?_
                refine x_icmp_ne (q102c0 54 rfl) (fun c21 => ?_) (fun c21 => ?_)
                · replace H := H.1 c21
                  refine x_iconst (q102c0 57 rfl) ?_
                  exact x_iretz (q102c0 58 rfl) (.inl rfl) H
                · replace H := H.2 c21
                  refine x_iconst (q102c0 55 rfl) ?_
                  refine x_goto (q102c0 56 rfl) ?_
                  exact x_iretz (q102c0 58 rfl) (.inr rfl) H
theorem e_Texts_signOf {h : am_H} {x0 : Int} {P : Int → am_H → Prop} (H : ((97 ≤ x0 ∧ x0 ≤ 122) → ((am_ok (x0 - 97)) ∧ P (x0 - 97) h)) ∧ ((¬(97 ≤ x0 ∧ x0 ≤ 122)) → ((x0 ≠ 35 → ((x0 ≠ 42 → P (-1) h) ∧ (x0 = 42 → P 27 h))) ∧ (x0 = 35 → P 26 h)))) : ∃ a h1, am_cd 2 103 [.inl x0] h (some (.inl a)) h1 ∧ P a h1 := by
  refine am_outi (d := 1) (ls := [some (.inl x0)]) rfl ab103 ml103 (Nat.le_of_ble_eq_true rfl) np103 rfl ?_
  refine x_iload_n (q103c0 0 rfl) rfl ?_
  refine x_csi (q103c0 1 rfl) rfl rfl rfl (Nat.le_of_ble_eq_true rfl) (am_lifti (Nat.le_of_ble_eq_true rfl) (e_Texts_isLetter   ?_))
  refine ⟨fun c1 => ?_, fun c1 => ?_⟩
  · replace H := H.1 c1
    obtain ⟨s2, H⟩ := H
    refine x_if_eq_f (q103c0 2 rfl) (by decide) ?_
    refine x_iload_n (q103c0 3 rfl) rfl ?_
    refine x_bipush (q103c0 4 rfl) ?_
    refine x_isub (q103c0 5 rfl) s2 ?_
    exact x_ireti (q103c0 6 rfl) zb103 H
  · replace H := H.2 c1
    refine x_if_eq_t (q103c0 2 rfl) (by decide) ?_
    refine x_iload_n (q103c0 7 rfl) rfl ?_
    refine x_bipush (q103c0 8 rfl) ?_
    refine x_icmp_ne (q103c0 9 rfl) (fun c3 => ?_) (fun c3 => ?_)
    · replace H := H.1 c3
      refine x_iload_n (q103c0 12 rfl) rfl ?_
      refine x_bipush (q103c0 13 rfl) ?_
      refine x_icmp_ne (q103c0 14 rfl) (fun c4 => ?_) (fun c4 => ?_)
      · replace H := H.1 c4
        refine x_iconst (q103c0 17 rfl) ?_
        exact x_ireti (q103c0 18 rfl) zb103 H
      · replace H := H.2 c4
        refine x_bipush (q103c0 15 rfl) ?_
        refine x_goto (q103c0 16 rfl) ?_
        exact x_ireti (q103c0 18 rfl) zb103 H
    · replace H := H.2 c3
      refine x_bipush (q103c0 10 rfl) ?_
      refine x_goto (q103c0 11 rfl) ?_
      exact x_ireti (q103c0 18 rfl) zb103 H
theorem e_Texts_change {h : am_H} {x1 : Int} {P : am_H → Prop} (H : am_x (am_cd 1) 104 (am_qv P) 0 8 [some (.inr (.inr 24)), some (.inl x1), some (.inl 0), some (.inl 26), some (.inl 0), none, none, none, none] [] h) : ∃ h1, am_cd 2 104 [.inr (.inr 24), .inl x1] h none h1 ∧ P h1 := by
  refine am_outv (d := 1) (ls := [some (.inr (.inr 24)), some (.inl x1), none, none, none, none, none, none, none]) rfl ab104 ml104 (Nat.le_of_ble_eq_true rfl) np104 rfl ?_
  refine x_iconst (q104c0 0 rfl) ?_
  refine x_istore_n (q104c0 1 rfl) ⟨Nat.le_of_ble_eq_true rfl, trivial⟩ ?_
  refine x_bipush (q104c0 2 rfl) ?_
  refine x_istore_n (q104c0 3 rfl) ⟨Nat.le_of_ble_eq_true rfl, trivial⟩ ?_
  refine x_iconst (q104c0 4 rfl) ?_
  refine x_istore (q104c0 5 rfl) ⟨Nat.le_of_ble_eq_true rfl, trivial⟩ ?_
  exact H
theorem g_Texts_change_8 {h : am_H} {x1 : Int} {x2 : Int} {x3 : Int} {x4 : Int} {P : am_H → Prop} (H : (h 24 8 ≤ x4 → P (am_up h 24 8 x2)) ∧ (x4 < h 24 8 → (((0 ≤ x4 ∧ x4 < 8) ∧ am_ok (x4 + 1)) ∧ ((h 24 8 ≤ x4 + 1 → am_x (am_cd 1) 104 (am_qv P) 0 53 [some (.inr (.inr 24)), some (.inl x1), some (.inl x2), some (.inl x3), some (.inl x4), some (.inl (h 31 x4)), some (.inl 26), none, none] [] h) ∧ (x4 + 1 < h 24 8 → ((0 ≤ x4 + 1 ∧ x4 + 1 < 8) ∧ am_x (am_cd 1) 104 (am_qv P) 0 53 [some (.inr (.inr 24)), some (.inl x1), some (.inl x2), some (.inl x3), some (.inl x4), some (.inl (h 31 x4)), some (.inl (h 31 (1 + x4))), none, none] [] h)))))) : am_x (am_cd 1) 104 (am_qv P) 0 8 [some (.inr (.inr 24)), some (.inl x1), some (.inl x2), some (.inl x3), some (.inl x4), none, none, none, none] [] h := by
  refine x_iload (q104c0 6 rfl) rfl ?_
  refine x_aload_n (q104c0 7 rfl) rfl ?_
  refine x_getf (q104c0 8 rfl) fd24_8 (rfl) ?_
  refine x_icmp_ge (q104c0 9 rfl) (fun c1 => ?_) (fun c1 => ?_)
  · replace H := H.1 c1
    refine x_aload_n (q104c1 16 rfl) rfl ?_
    refine x_iload_n (q104c1 17 rfl) rfl ?_
    refine x_putf (q104c1 18 rfl) fd24_8 ?_
    exact x_ret (q104c1 19 rfl) H
  · replace H := H.2 c1
    obtain ⟨⟨s2, s3⟩, H⟩ := H
    refine x_aload_n (q104c0 10 rfl) rfl ?_
    refine x_getr (q104c0 11 rfl) fd24_9 ?_
    refine x_iload (q104c0 12 rfl) rfl ?_
    refine x_iaload (q104c0 13 rfl) (al31 _) rfl (ag_l rfl rfl (rfl)) s2 ?_
    refine x_istore (q104c0 14 rfl) ⟨Nat.le_of_ble_eq_true rfl, trivial⟩ ?_
    refine x_iload (q104c0 15 rfl) rfl ?_
    refine x_iconst (q104c0 16 rfl) ?_
    refine x_iadd (q104c0 17 rfl) s3 ?_
    refine x_aload_n (q104c0 18 rfl) rfl ?_
    refine x_getf (q104c0 19 rfl) fd24_8 (rfl) ?_
    refine x_icmp_ge (q104c0 20 rfl) (fun c4 => ?_) (fun c4 => ?_)
    · replace H := H.1 c4
      refine x_bipush (q104c0 28 rfl) ?_
      refine x_istore (q104c0 29 rfl) ⟨Nat.le_of_ble_eq_true rfl, trivial⟩ ?_
      exact H
    · replace H := H.2 c4
      obtain ⟨s5, H⟩ := H
      refine x_aload_n (q104c0 21 rfl) rfl ?_
      refine x_getr (q104c0 22 rfl) fd24_9 ?_
      refine x_iload (q104c0 23 rfl) rfl ?_
      refine x_iconst (q104c0 24 rfl) ?_
      refine x_iadd (q104c0 25 rfl) s3 ?_
      refine x_iaload (q104c0 26 rfl) (al31 _) rfl (ag_l (j1 := 1 + x4) rfl (by omega) (rfl)) s5 ?_
      refine x_goto (q104c0 27 rfl) ?_
      refine x_istore (q104c0 29 rfl) ⟨Nat.le_of_ble_eq_true rfl, trivial⟩ ?_
      exact H
theorem g_Texts_change_53 {h : am_H} {x1 : Int} {x2 : Int} {x3 : Int} {x4 : Int} {x5 : Int} {x6 : Int} {P : am_H → Prop} (H : (0 ≤ x1 ∧ x1 < 48) ∧ ((x5 ≠ h 27 x1 → am_x (am_cd 1) 104 (am_qv P) 0 116 [some (.inr (.inr 24)), some (.inl x1), some (.inl x2), none, some (.inl x4), some (.inl x5), none, none, some (.inl x5)] [] h) ∧ (x5 = h 27 x1 → (((h 29 x1 ≠ 27 ∧ h 29 x1 ≠ x3) → am_x (am_cd 1) 104 (am_qv P) 0 116 [some (.inr (.inr 24)), some (.inl x1), some (.inl x2), none, some (.inl x4), some (.inl x5), none, none, some (.inl x5)] [] h) ∧ ((¬(h 29 x1 ≠ 27 ∧ h 29 x1 ≠ x3)) → (((h 30 x1 ≠ 27 ∧ h 30 x1 ≠ x6) → am_x (am_cd 1) 104 (am_qv P) 0 116 [some (.inr (.inr 24)), some (.inl x1), some (.inl x2), none, some (.inl x4), some (.inl x5), none, none, some (.inl x5)] [] h) ∧ ((¬(h 30 x1 ≠ 27 ∧ h 30 x1 ≠ x6)) → am_x (am_cd 1) 104 (am_qv P) 0 116 [some (.inr (.inr 24)), some (.inl x1), some (.inl x2), none, some (.inl x4), some (.inl x5), none, none, some (.inl (h 28 x1))] [] h))))))) : am_x (am_cd 1) 104 (am_qv P) 0 53 [some (.inr (.inr 24)), some (.inl x1), some (.inl x2), some (.inl x3), some (.inl x4), some (.inl x5), some (.inl x6), none, none] [] h := by
  obtain ⟨s1, H⟩ := H
  refine x_iload (q104c0 30 rfl) rfl ?_
  refine x_aload_n (q104c0 31 rfl) rfl ?_
  refine x_getr (q104c0 32 rfl) fd24_4 ?_
  refine x_iload_n (q104c0 33 rfl) rfl ?_
  refine x_iaload (q104c0 34 rfl) (al27 _) rfl (ag_l rfl rfl (rfl)) s1 ?_
  refine x_icmp_ne (q104c0 35 rfl) (fun c2 => ?_) (fun c2 => ?_)
  · replace H := H.1 c2
    refine x_iconst (q104c0 52 rfl) ?_
    refine x_istore (q104c0 53 rfl) ⟨Nat.le_of_ble_eq_true rfl, trivial⟩ ?_
    refine x_iload (q104c0 54 rfl) rfl ?_
    refine x_if_eq_t (q104c0 55 rfl) (by decide) ?_
    refine x_iload (q104c1 1 rfl) rfl ?_
    refine x_istore (q104c1 2 rfl) ⟨Nat.le_of_ble_eq_true rfl, trivial⟩ ?_
    exact am_x_weak (ls' := [some (.inr (.inr 24)), some (.inl x1), some (.inl x2), some (.inl x3), some (.inl x4), some (.inl x5), some (.inl x6), some (.inl 0), some (.inl x5)]) (lle_c (lle_c (lle_c (lle_d trivial (lle_c (lle_c (lle_d trivial (lle_d trivial (lle_c (lle_nil)))))))))) H
  · replace H := H.2 c2
    refine x_aload_n (q104c0 36 rfl) rfl ?_
    refine x_getr (q104c0 37 rfl) fd24_6 ?_
    refine x_iload_n (q104c0 38 rfl) rfl ?_
    refine x_iaload (q104c0 39 rfl) (al29 _) rfl (ag_l rfl rfl (rfl)) s1 ?_
    refine x_iload_n (q104c0 40 rfl) rfl ?_
    refine x_csi (q104c0 41 rfl) rfl rfl rfl (Nat.le_of_ble_eq_true rfl) (am_lifti (Nat.le_of_ble_eq_true rfl) (e_Texts_allows   ?_))
    refine ⟨fun c3 => ?_, fun c3 => ?_⟩
    · replace H := H.1 c3
      refine x_if_eq_t (q104c0 42 rfl) (by decide) ?_
      refine x_iconst (q104c0 52 rfl) ?_
      refine x_istore (q104c0 53 rfl) ⟨Nat.le_of_ble_eq_true rfl, trivial⟩ ?_
      refine x_iload (q104c0 54 rfl) rfl ?_
      refine x_if_eq_t (q104c0 55 rfl) (by decide) ?_
      refine x_iload (q104c1 1 rfl) rfl ?_
      refine x_istore (q104c1 2 rfl) ⟨Nat.le_of_ble_eq_true rfl, trivial⟩ ?_
      exact am_x_weak (ls' := [some (.inr (.inr 24)), some (.inl x1), some (.inl x2), some (.inl x3), some (.inl x4), some (.inl x5), some (.inl x6), some (.inl 0), some (.inl x5)]) (lle_c (lle_c (lle_c (lle_d trivial (lle_c (lle_c (lle_d trivial (lle_d trivial (lle_c (lle_nil)))))))))) H
    · replace H := H.2 c3
      refine x_if_eq_f (q104c0 42 rfl) (by decide) ?_
      refine x_aload_n (q104c0 43 rfl) rfl ?_
      refine x_getr (q104c0 44 rfl) fd24_7 ?_
      refine x_iload_n (q104c0 45 rfl) rfl ?_
      refine x_iaload (q104c0 46 rfl) (al30 _) rfl (ag_l rfl rfl (rfl)) s1 ?_
      refine x_iload (q104c0 47 rfl) rfl ?_
      refine x_csi (q104c0 48 rfl) rfl rfl rfl (Nat.le_of_ble_eq_true rfl) (am_lifti (Nat.le_of_ble_eq_true rfl) (e_Texts_allows   ?_))
      refine ⟨fun c4 => ?_, fun c4 => ?_⟩
      · replace H := H.1 c4
        refine x_if_eq_t (q104c0 49 rfl) (by decide) ?_
        refine x_iconst (q104c0 52 rfl) ?_
        refine x_istore (q104c0 53 rfl) ⟨Nat.le_of_ble_eq_true rfl, trivial⟩ ?_
        refine x_iload (q104c0 54 rfl) rfl ?_
        refine x_if_eq_t (q104c0 55 rfl) (by decide) ?_
        refine x_iload (q104c1 1 rfl) rfl ?_
        refine x_istore (q104c1 2 rfl) ⟨Nat.le_of_ble_eq_true rfl, trivial⟩ ?_
        exact am_x_weak (ls' := [some (.inr (.inr 24)), some (.inl x1), some (.inl x2), some (.inl x3), some (.inl x4), some (.inl x5), some (.inl x6), some (.inl 0), some (.inl x5)]) (lle_c (lle_c (lle_c (lle_d trivial (lle_c (lle_c (lle_d trivial (lle_d trivial (lle_c (lle_nil)))))))))) H
      · replace H := H.2 c4
        refine x_if_eq_f (q104c0 49 rfl) (by decide) ?_
        refine x_iconst (q104c0 50 rfl) ?_
        refine x_goto (q104c0 51 rfl) ?_
        refine x_istore (q104c0 53 rfl) ⟨Nat.le_of_ble_eq_true rfl, trivial⟩ ?_
        refine x_iload (q104c0 54 rfl) rfl ?_
        refine x_if_eq_f (q104c0 55 rfl) (by decide) ?_
        refine x_aload_n (q104c0 56 rfl) rfl ?_
        refine x_getr (q104c0 57 rfl) fd24_5 ?_
        refine x_iload_n (q104c0 58 rfl) rfl ?_
        refine x_iaload (q104c0 59 rfl) (al28 _) rfl (ag_l rfl rfl (rfl)) s1 ?_
        refine x_goto (q104c1 0 rfl) ?_
        refine x_istore (q104c1 2 rfl) ⟨Nat.le_of_ble_eq_true rfl, trivial⟩ ?_
        exact am_x_weak (ls' := [some (.inr (.inr 24)), some (.inl x1), some (.inl x2), some (.inl x3), some (.inl x4), some (.inl x5), some (.inl x6), some (.inl 1), some (.inl (h 28 x1))]) (lle_c (lle_c (lle_c (lle_d trivial (lle_c (lle_c (lle_d trivial (lle_d trivial (lle_c (lle_nil)))))))))) H
theorem g_Texts_change_116 {h : am_H} {x1 : Int} {x2 : Int} {x4 : Int} {x5 : Int} {x8 : Int} {P : am_H → Prop} (H : (x8 = (-1) → ((am_ok (x4 + 1)) ∧ am_x (am_cd 1) 104 (am_qv P) 0 8 [some (.inr (.inr 24)), some (.inl x1), some (.inl x2), some (.inl x5), some (.inl (x4 + 1)), none, none, none, none] [] h)) ∧ (x8 ≠ (-1) → (((0 ≤ x2 ∧ x2 < 8) ∧ am_ok (x2 + 1) ∧ am_ok (x4 + 1)) ∧ am_x (am_cd 1) 104 (am_qv P) 0 8 [some (.inr (.inr 24)), some (.inl x1), some (.inl (x2 + 1)), some (.inl x5), some (.inl (x4 + 1)), none, none, none, none] [] (am_up h 31 x2 x8)))) : am_x (am_cd 1) 104 (am_qv P) 0 116 [some (.inr (.inr 24)), some (.inl x1), some (.inl x2), none, some (.inl x4), some (.inl x5), none, none, some (.inl x8)] [] h := by
  refine x_iload (q104c1 3 rfl) rfl ?_
  refine x_iconst (q104c1 4 rfl) ?_
  refine x_icmp_eq (q104c1 5 rfl) (fun c1 => ?_) (fun c1 => ?_)
  · replace H := H.1 c1
    obtain ⟨s2, H⟩ := H
    refine x_iload (q104c1 12 rfl) rfl ?_
    refine x_istore_n (q104c1 13 rfl) ⟨Nat.le_of_ble_eq_true rfl, trivial⟩ ?_
    refine x_iinc (q104c1 14 rfl) rfl ⟨Nat.le_of_ble_eq_true rfl, trivial⟩ s2 ?_
    refine x_goto (q104c1 15 rfl) ?_
    exact am_x_weak (ls' := [some (.inr (.inr 24)), some (.inl x1), some (.inl x2), some (.inl x5), some (.inl (x4 + 1)), some (.inl x5), none, none, some (.inl x8)]) (lle_c (lle_c (lle_c (lle_c (lle_c (lle_d trivial (lle_c (lle_c (lle_d trivial (lle_nil)))))))))) H
  · replace H := H.2 c1
    obtain ⟨⟨s3, s4, s5⟩, H⟩ := H
    refine x_aload_n (q104c1 6 rfl) rfl ?_
    refine x_getr (q104c1 7 rfl) fd24_9 ?_
    refine x_iload_n (q104c1 8 rfl) rfl ?_
    refine x_iload (q104c1 9 rfl) rfl ?_
    refine x_iastore (q104c1 10 rfl) (al31 _) rfl (Nat.le_of_ble_eq_true rfl) s3 (j := x2) rfl ?_
    refine x_iinc (q104c1 11 rfl) rfl ⟨Nat.le_of_ble_eq_true rfl, trivial⟩ s4 ?_
    refine x_iload (q104c1 12 rfl) rfl ?_
    refine x_istore_n (q104c1 13 rfl) ⟨Nat.le_of_ble_eq_true rfl, trivial⟩ ?_
    refine x_iinc (q104c1 14 rfl) rfl ⟨Nat.le_of_ble_eq_true rfl, trivial⟩ s5 ?_
    refine x_goto (q104c1 15 rfl) ?_
    exact am_x_weak (ls' := [some (.inr (.inr 24)), some (.inl x1), some (.inl (x2 + 1)), some (.inl x5), some (.inl (x4 + 1)), some (.inl x5), none, none, some (.inl x8)]) (lle_c (lle_c (lle_c (lle_c (lle_c (lle_d trivial (lle_c (lle_c (lle_d trivial (lle_nil)))))))))) H
theorem e_Tour_nextStop {h : am_H} {x1 : Int} {x2 : Int} {P : Int → am_H → Prop} (H : am_x (am_cd 1) 105 (am_qi P) 0 5 [some (.inr (.inr 39)), some (.inl x1), some (.inl x2), some (.inl (-1)), some (.inl 0), none] [] h) : ∃ a h1, am_cd 2 105 [.inr (.inr 39), .inl x1, .inl x2] h (some (.inl a)) h1 ∧ P a h1 := by
  refine am_outi (d := 1) (ls := [some (.inr (.inr 39)), some (.inl x1), some (.inl x2), none, none, none]) rfl ab105 ml105 (Nat.le_of_ble_eq_true rfl) np105 rfl ?_
  refine x_iconst (q105c0 0 rfl) ?_
  refine x_istore_n (q105c0 1 rfl) ⟨Nat.le_of_ble_eq_true rfl, trivial⟩ ?_
  refine x_iconst (q105c0 2 rfl) ?_
  refine x_istore (q105c0 3 rfl) ⟨Nat.le_of_ble_eq_true rfl, trivial⟩ ?_
  exact H
