theorem g_Tour_nextStop_5 {h : am_H} {x1 : Int} {x2 : Int} {x3 : Int} {x4 : Int} {P : Int → am_H → Prop} (H : (h 39 1 ≤ x4 → P x3 h) ∧ (x4 < h 39 1 → ((am_and x1 (am_shl 1 x4) ≠ 0 → ((am_ok (x4 + 1)) ∧ am_x (am_cd 1) 105 (am_qi P) 0 5 [some (.inr (.inr 39)), some (.inl x1), some (.inl x2), some (.inl x3), some (.inl (x4 + 1)), none] [] h)) ∧ (am_and x1 (am_shl 1 x4) = 0 → ((x3 = (-1) → ((am_ok (x4 + 1)) ∧ am_x (am_cd 1) 105 (am_qi P) 0 5 [some (.inr (.inr 39)), some (.inl x1), some (.inl x2), some (.inl x4), some (.inl (x4 + 1)), none] [] h)) ∧ (x3 ≠ (-1) → ((am_ok (x2 * 8) ∧ am_ok (x2 * 8 + x4) ∧ (0 ≤ x2 * 8 + x4 ∧ x2 * 8 + x4 < 64) ∧ am_ok (am_or x1 (am_shl 1 x4) * 7) ∧ am_ok (am_or x1 (am_shl 1 x4) * 7 + x4) ∧ (0 ≤ am_or x1 (am_shl 1 x4) * 7 + x4 ∧ am_or x1 (am_shl 1 x4) * 7 + x4 < 896) ∧ am_ok (h 41 (8 * x2 + x4) + h 42 (7 * am_or x1 (am_shl 1 x4) + x4))) ∧ ((am_ok (x2 * 8 + x3) ∧ (0 ≤ x2 * 8 + x3 ∧ x2 * 8 + x3 < 64) ∧ am_ok (am_or x1 (am_shl 1 x3) * 7) ∧ am_ok (am_or x1 (am_shl 1 x3) * 7 + x3) ∧ (0 ≤ am_or x1 (am_shl 1 x3) * 7 + x3 ∧ am_or x1 (am_shl 1 x3) * 7 + x3 < 896) ∧ am_ok (h 41 (8 * x2 + x3) + h 42 (7 * am_or x1 (am_shl 1 x3) + x3))) ∧ ((h 41 (8 * x2 + x3) + h 42 (7 * am_or x1 (am_shl 1 x3) + x3) ≤ h 41 (8 * x2 + x4) + h 42 (7 * am_or x1 (am_shl 1 x4) + x4) → ((am_ok (x4 + 1)) ∧ am_x (am_cd 1) 105 (am_qi P) 0 5 [some (.inr (.inr 39)), some (.inl x1), some (.inl x2), some (.inl x3), some (.inl (x4 + 1)), none] [] h)) ∧ (h 41 (8 * x2 + x4) + h 42 (7 * am_or x1 (am_shl 1 x4) + x4) < h 41 (8 * x2 + x3) + h 42 (7 * am_or x1 (am_shl 1 x3) + x3) → ((am_ok (x4 + 1)) ∧ am_x (am_cd 1) 105 (am_qi P) 0 5 [some (.inr (.inr 39)), some (.inl x1), some (.inl x2), some (.inl x4), some (.inl (x4 + 1)), none] [] h))))))))))) : am_x (am_cd 1) 105 (am_qi P) 0 5 [some (.inr (.inr 39)), some (.inl x1), some (.inl x2), some (.inl x3), some (.inl x4), none] [] h := by
  refine x_iload (q105c0 4 rfl) rfl ?_
  refine x_aload_n (q105c0 5 rfl) rfl ?_
  refine x_getf (q105c0 6 rfl) fd39_1 (rfl) ?_
  refine x_icmp_ge (q105c0 7 rfl) (fun c1 => ?_) (fun c1 => ?_)
  · replace H := H.1 c1
    refine x_iload_n (q105c0 38 rfl) rfl ?_
    exact x_ireti (q105c0 39 rfl) zb105 H
  · replace H := H.2 c1
    refine x_iload_n (q105c0 8 rfl) rfl ?_
    refine x_iconst (q105c0 9 rfl) ?_
    refine x_iload (q105c0 10 rfl) rfl ?_
    refine x_ishl (q105c0 11 rfl) ?_
    refine x_iand (q105c0 12 rfl) ?_
    refine x_if_ne (q105c0 13 rfl) (fun c2 => ?_) (fun c2 => ?_)
    · replace H := H.1 c2
      obtain ⟨s3, H⟩ := H
      refine x_iconst (q105c0 16 rfl) ?_
      refine x_istore (q105c0 17 rfl) ⟨Nat.le_of_ble_eq_true rfl, trivial⟩ ?_
      refine x_iload (q105c0 18 rfl) rfl ?_
      refine x_if_eq_t (q105c0 19 rfl) (by decide) ?_
      refine x_iinc (q105c0 36 rfl) rfl ⟨Nat.le_of_ble_eq_true rfl, trivial⟩ s3 ?_
      refine x_goto (q105c0 37 rfl) ?_
      exact am_x_weak (ls' := [some (.inr (.inr 39)), some (.inl x1), some (.inl x2), some (.inl x3), some (.inl (x4 + 1)), some (.inl 0)]) (lle_c (lle_c (lle_c (lle_c (lle_c (lle_d trivial (lle_nil))))))) H
    · replace H := H.2 c2
      refine x_iconst (q105c0 14 rfl) ?_
      refine x_goto (q105c0 15 rfl) ?_
      refine x_istore (q105c0 17 rfl) ⟨Nat.le_of_ble_eq_true rfl, trivial⟩ ?_
      refine x_iload (q105c0 18 rfl) rfl ?_
      refine x_if_eq_f (q105c0 19 rfl) (by decide) ?_
      refine x_iload_n (q105c0 20 rfl) rfl ?_
      refine x_iconst (q105c0 21 rfl) ?_
      refine x_icmp_eq (q105c0 22 rfl) (fun c4 => ?_) (fun c4 => ?_)
      · replace H := H.1 c4
        obtain ⟨s5, H⟩ := H
        refine x_iload (q105c0 34 rfl) rfl ?_
        refine x_istore_n (q105c0 35 rfl) ⟨Nat.le_of_ble_eq_true rfl, trivial⟩ ?_
        refine x_iinc (q105c0 36 rfl) rfl ⟨Nat.le_of_ble_eq_true rfl, trivial⟩ s5 ?_
        refine x_goto (q105c0 37 rfl) ?_
        exact am_x_weak (ls' := [some (.inr (.inr 39)), some (.inl x1), some (.inl x2), some (.inl x4), some (.inl (x4 + 1)), some (.inl 1)]) (lle_c (lle_c (lle_c (lle_c (lle_c (lle_d trivial (lle_nil))))))) H
      · replace H := H.2 c4
        refine x_aload_n (q105c0 23 rfl) rfl ?_
        refine x_iload_n (q105c0 24 rfl) rfl ?_
        refine x_iload_n (q105c0 25 rfl) rfl ?_
        refine x_iload (q105c0 26 rfl) rfl ?_
        refine x_cvi (q105c0 27 rfl) rfl oc39 rfl (Nat.le_of_ble_eq_true rfl) (am_lifti (Nat.le_of_ble_eq_true rfl) (e_Tour_sumBy (r1 := h 41 (8 * x2 + x4)) (r2 := h 42 (7 * am_or x1 (am_shl 1 x4) + x4)) (rfl) (rfl) ?_))
        obtain ⟨⟨s6, s7, s8, s9, s10, s11, s12⟩, H⟩ := H
        refine ⟨⟨s6, s7, s8, s9, s10, s11, s12⟩, ?_⟩
        refine x_aload_n (q105c0 28 rfl) rfl ?_
        refine x_iload_n (q105c0 29 rfl) rfl ?_
        refine x_iload_n (q105c0 30 rfl) rfl ?_
        refine x_iload_n (q105c0 31 rfl) rfl ?_
        refine x_cvi (q105c0 32 rfl) rfl oc39 rfl (Nat.le_of_ble_eq_true rfl) (am_lifti (Nat.le_of_ble_eq_true rfl) (e_Tour_sumBy (r1 := h 41 (8 * x2 + x3)) (r2 := h 42 (7 * am_or x1 (am_shl 1 x3) + x3)) (rfl) (rfl) ?_))
        obtain ⟨⟨s13, s14, s15, s16, s17, s18⟩, H⟩ := H
        refine ⟨⟨s6, s13, s14, s15, s16, s17, s18⟩, ?_⟩
        refine x_icmp_ge (q105c0 33 rfl) (fun c19 => ?_) (fun c19 => ?_)
        · replace H := H.1 c19
          obtain ⟨s20, H⟩ := H
          refine x_iinc (q105c0 36 rfl) rfl ⟨Nat.le_of_ble_eq_true rfl, trivial⟩ s20 ?_
          refine x_goto (q105c0 37 rfl) ?_
          exact am_x_weak (ls' := [some (.inr (.inr 39)), some (.inl x1), some (.inl x2), some (.inl x3), some (.inl (x4 + 1)), some (.inl 1)]) (lle_c (lle_c (lle_c (lle_c (lle_c (lle_d trivial (lle_nil))))))) H
        · replace H := H.2 c19
          obtain ⟨s21, H⟩ := H
          refine x_iload (q105c0 34 rfl) rfl ?_
          refine x_istore_n (q105c0 35 rfl) ⟨Nat.le_of_ble_eq_true rfl, trivial⟩ ?_
          refine x_iinc (q105c0 36 rfl) rfl ⟨Nat.le_of_ble_eq_true rfl, trivial⟩ s21 ?_
          refine x_goto (q105c0 37 rfl) ?_
          exact am_x_weak (ls' := [some (.inr (.inr 39)), some (.inl x1), some (.inl x2), some (.inl x4), some (.inl (x4 + 1)), some (.inl 1)]) (lle_c (lle_c (lle_c (lle_c (lle_c (lle_d trivial (lle_nil))))))) H
theorem e_At_as {h : am_H} {x1 : Int} {x2 : Int} {P : Int → am_H → Prop} (H : ((0 ≤ x1 ∧ x1 < h 7 0) → (((0 ≤ x2 ∧ x2 ≤ 3) → (∃ a4 h3, am_cd 1 15 [.inr (.inr 7), .inl x1, .inl x2] h (some (.inl a4)) h3 ∧ ((a4 = 0 → ((am_ok (h3 0 13 + 1)) ∧ P (-100004) (am_up h3 0 13 (h3 0 13 + 1)))) ∧ (a4 ≠ 0 → (∃ a9 h8, am_cd 1 16 [.inr (.inr 7), .inl x1] h3 (some (.inl a9)) h8 ∧ P a9 h8))))) ∧ ((¬(0 ≤ x2 ∧ x2 ≤ 3)) → ((am_ok (h 0 13 + 1)) ∧ P (-100001) (am_up h 0 13 (h 0 13 + 1)))))) ∧ ((¬(0 ≤ x1 ∧ x1 < h 7 0)) → ((am_ok (h 0 13 + 1)) ∧ P (-100001) (am_up h 0 13 (h 0 13 + 1))))) : ∃ a h1, am_cd 2 106 [.inr (.inr 0), .inl x1, .inl x2] h (some (.inl a)) h1 ∧ P a h1 := by
  refine am_outi (d := 1) (ls := [some (.inr (.inr 0)), some (.inl x1), some (.inl x2)]) rfl ab106 ml106 (Nat.le_of_ble_eq_true rfl) np106 rfl ?_
  refine x_aload_n (q106c0 0 rfl) rfl ?_
  refine x_getr (q106c0 1 rfl) fd0_1 ?_
  refine x_iload_n (q106c0 2 rfl) rfl ?_
  refine x_cvi (q106c0 3 rfl) rfl oc7 rfl (Nat.le_of_ble_eq_true rfl) (am_lifti (Nat.le_of_ble_eq_true rfl) (e_Asked_has (r1 := h 7 0) (rfl) ?_))
  refine ⟨fun c1 => ?_, fun c1 => ?_⟩
  · replace H := H.1 c1
    refine x_if_eq_f (q106c0 4 rfl) (by decide) ?_
    refine x_iload_n (q106c0 5 rfl) rfl ?_
    refine x_csi (q106c0 6 rfl) rfl rfl rfl (Nat.le_of_ble_eq_true rfl) (am_lifti (Nat.le_of_ble_eq_true rfl) (e_Asked_isKind   ?_))
    refine ⟨fun c2 => ?_, fun c2 => ?_⟩
    · replace H := H.1 c2
      refine x_if_ne_t (q106c0 7 rfl) (by decide) ?_
      refine x_aload_n (q106c0 12 rfl) rfl ?_
      refine x_getr (q106c0 13 rfl) fd0_1 ?_
      refine x_iload_n (q106c0 14 rfl) rfl ?_
      refine x_iload_n (q106c0 15 rfl) rfl ?_
      obtain ⟨a4, h3, w5, H⟩ := H
      refine x_cvi (q106c0 16 rfl) rfl oc7 rfl (Nat.le_of_ble_eq_true rfl) ⟨a4, h3, w5, ?_⟩
      refine x_if_eq (q106c0 17 rfl) (fun c6 => ?_) (fun c6 => ?_)
      · replace H := H.1 c6
        refine x_aload_n (q106c0 23 rfl) rfl ?_
        refine x_ldc (q106c0 24 rfl) ?_
        refine x_cvi (q106c0 25 rfl) rfl oc0 rfl (Nat.le_of_ble_eq_true rfl) (am_lifti (Nat.le_of_ble_eq_true rfl) (e_At_finding (r1 := h3 0 13) (rfl) ?_))
        obtain ⟨s7, H⟩ := H
        refine ⟨s7, ?_⟩
        exact x_ireti (q106c0 26 rfl) zb106 H
      · replace H := H.2 c6
        refine x_aload_n (q106c0 18 rfl) rfl ?_
        refine x_getr (q106c0 19 rfl) fd0_1 ?_
        refine x_iload_n (q106c0 20 rfl) rfl ?_
        obtain ⟨a9, h8, w10, H⟩ := H
        refine x_cvi (q106c0 21 rfl) rfl oc7 rfl (Nat.le_of_ble_eq_true rfl) ⟨a9, h8, w10, ?_⟩
        refine x_goto (q106c0 22 rfl) ?_
        exact x_ireti (q106c0 26 rfl) zb106 H
    · replace H := H.2 c2
      refine x_if_ne_f (q106c0 7 rfl) (by decide) ?_
      refine x_aload_n (q106c0 8 rfl) rfl ?_
      refine x_ldc (q106c0 9 rfl) ?_
      refine x_cvi (q106c0 10 rfl) rfl oc0 rfl (Nat.le_of_ble_eq_true rfl) (am_lifti (Nat.le_of_ble_eq_true rfl) (e_At_finding (r1 := h 0 13) (rfl) ?_))
      obtain ⟨s11, H⟩ := H
      refine ⟨s11, ?_⟩
      exact x_ireti (q106c0 11 rfl) zb106 H
  · replace H := H.2 c1
    refine x_if_eq_t (q106c0 4 rfl) (by decide) ?_
    refine x_aload_n (q106c0 8 rfl) rfl ?_
    refine x_ldc (q106c0 9 rfl) ?_
    refine x_cvi (q106c0 10 rfl) rfl oc0 rfl (Nat.le_of_ble_eq_true rfl) (am_lifti (Nat.le_of_ble_eq_true rfl) (e_At_finding (r1 := h 0 13) (rfl) ?_))
    obtain ⟨s12, H⟩ := H
    refine ⟨s12, ?_⟩
    exact x_ireti (q106c0 11 rfl) zb106 H
theorem e_At_sound {h : am_H} {x1 : Int} {x2 : Int} {P : Int → am_H → Prop} (H : ((0 ≤ x1 ∧ x1 < h 11 0) → ((x2 < (-1) → ((am_ok (h 0 13 + 1)) ∧ P (-100001) (am_up h 0 13 (h 0 13 + 1)))) ∧ ((-1) ≤ x2 → ((0 ≤ x1 ∧ x1 < 30) ∧ ((x2 < h 12 x1 → ((0 ≤ x2 → ((am_ok (x1 * 8) ∧ am_ok (x1 * 8 + x2) ∧ (0 ≤ x1 * 8 + x2 ∧ x1 * 8 + x2 < 240)) ∧ P (h 13 (8 * x1 + x2)) h)) ∧ (x2 < 0 → P (h 12 x1) h))) ∧ (h 12 x1 ≤ x2 → ((am_ok (h 0 13 + 1)) ∧ P (-100001) (am_up h 0 13 (h 0 13 + 1))))))))) ∧ ((¬(0 ≤ x1 ∧ x1 < h 11 0)) → ((am_ok (h 0 13 + 1)) ∧ P (-100001) (am_up h 0 13 (h 0 13 + 1))))) : ∃ a h1, am_cd 2 107 [.inr (.inr 0), .inl x1, .inl x2] h (some (.inl a)) h1 ∧ P a h1 := by
  refine am_outi (d := 1) (ls := [some (.inr (.inr 0)), some (.inl x1), some (.inl x2)]) rfl ab107 ml107 (Nat.le_of_ble_eq_true rfl) np107 rfl ?_
  refine x_aload_n (q107c0 0 rfl) rfl ?_
  refine x_getr (q107c0 1 rfl) fd0_2 ?_
  refine x_iload_n (q107c0 2 rfl) rfl ?_
  refine x_cvi (q107c0 3 rfl) rfl oc11 rfl (Nat.le_of_ble_eq_true rfl) (am_lifti (Nat.le_of_ble_eq_true rfl) (e_Forms_has (r1 := h 11 0) (rfl) ?_))
  refine ⟨fun c1 => ?_, fun c1 => ?_⟩
  · replace H := H.1 c1
    refine x_if_eq_f (q107c0 4 rfl) (by decide) ?_
    refine x_iload_n (q107c0 5 rfl) rfl ?_
    refine x_iconst (q107c0 6 rfl) ?_
    refine x_icmp_lt (q107c0 7 rfl) (fun c2 => ?_) (fun c2 => ?_)
    · replace H := H.1 c2
      refine x_aload_n (q107c0 14 rfl) rfl ?_
      refine x_ldc (q107c0 15 rfl) ?_
      refine x_cvi (q107c0 16 rfl) rfl oc0 rfl (Nat.le_of_ble_eq_true rfl) (am_lifti (Nat.le_of_ble_eq_true rfl) (e_At_finding (r1 := h 0 13) (rfl) ?_))
      obtain ⟨s3, H⟩ := H
      refine ⟨s3, ?_⟩
      exact x_ireti (q107c0 17 rfl) zb107 H
    · replace H := H.2 c2
      refine x_iload_n (q107c0 8 rfl) rfl ?_
      refine x_aload_n (q107c0 9 rfl) rfl ?_
      refine x_getr (q107c0 10 rfl) fd0_2 ?_
      refine x_iload_n (q107c0 11 rfl) rfl ?_
      refine x_cvi (q107c0 12 rfl) rfl oc11 rfl (Nat.le_of_ble_eq_true rfl) (am_lifti (Nat.le_of_ble_eq_true rfl) (e_Forms_lengthOf (r1 := h 12 x1) (rfl) ?_))
      obtain ⟨s4, H⟩ := H
      refine ⟨s4, ?_⟩
      refine x_icmp_lt (q107c0 13 rfl) (fun c5 => ?_) (fun c5 => ?_)
      · replace H := H.1 c5
        refine x_iload_n (q107c0 18 rfl) rfl ?_
        refine x_if_ge (q107c0 19 rfl) (fun c6 => ?_) (fun c6 => ?_)
        · replace H := H.1 c6
          refine x_aload_n (q107c0 25 rfl) rfl ?_
          refine x_getr (q107c0 26 rfl) fd0_2 ?_
          refine x_iload_n (q107c0 27 rfl) rfl ?_
          refine x_iload_n (q107c0 28 rfl) rfl ?_
          refine x_cvi (q107c0 29 rfl) rfl oc11 rfl (Nat.le_of_ble_eq_true rfl) (am_lifti (Nat.le_of_ble_eq_true rfl) (e_Forms_soundOf (r1 := h 13 (8 * x1 + x2)) (rfl) ?_))
          obtain ⟨⟨s7, s8, s9⟩, H⟩ := H
          refine ⟨⟨s7, s8, s9⟩, ?_⟩
          exact x_ireti (q107c0 30 rfl) zb107 H
        · replace H := H.2 c6
          refine x_aload_n (q107c0 20 rfl) rfl ?_
          refine x_getr (q107c0 21 rfl) fd0_2 ?_
          refine x_iload_n (q107c0 22 rfl) rfl ?_
          refine x_cvi (q107c0 23 rfl) rfl oc11 rfl (Nat.le_of_ble_eq_true rfl) (am_lifti (Nat.le_of_ble_eq_true rfl) (e_Forms_lengthOf (r1 := h 12 x1) (rfl) ?_))
          refine ⟨s4, ?_⟩
          refine x_goto (q107c0 24 rfl) ?_
          exact x_ireti (q107c0 30 rfl) zb107 H
      · replace H := H.2 c5
        refine x_aload_n (q107c0 14 rfl) rfl ?_
        refine x_ldc (q107c0 15 rfl) ?_
        refine x_cvi (q107c0 16 rfl) rfl oc0 rfl (Nat.le_of_ble_eq_true rfl) (am_lifti (Nat.le_of_ble_eq_true rfl) (e_At_finding (r1 := h 0 13) (rfl) ?_))
        obtain ⟨s10, H⟩ := H
        refine ⟨s10, ?_⟩
        exact x_ireti (q107c0 17 rfl) zb107 H
  · replace H := H.2 c1
    refine x_if_eq_t (q107c0 4 rfl) (by decide) ?_
    refine x_aload_n (q107c0 14 rfl) rfl ?_
    refine x_ldc (q107c0 15 rfl) ?_
    refine x_cvi (q107c0 16 rfl) rfl oc0 rfl (Nat.le_of_ble_eq_true rfl) (am_lifti (Nat.le_of_ble_eq_true rfl) (e_At_finding (r1 := h 0 13) (rfl) ?_))
    obtain ⟨s11, H⟩ := H
    refine ⟨s11, ?_⟩
    exact x_ireti (q107c0 17 rfl) zb107 H
theorem e_At_answerIs {h : am_H} {x1 : Int} {x2 : Int} {P : Int → am_H → Prop} (H : ((0 ≤ x1 ∧ x1 < h 17 1) → ((x2 < 0 → ((am_ok (h 0 13 + 1)) ∧ P (-100001) (am_up h 0 13 (h 0 13 + 1)))) ∧ (0 ≤ x2 → ((x2 ≤ 4 → (∃ a6 h5, am_cd 1 7 [.inr (.inr 17), .inl x1, .inl x2] h (some (.inl a6)) h5 ∧ P a6 h5)) ∧ (4 < x2 → ((am_ok (h 0 13 + 1)) ∧ P (-100001) (am_up h 0 13 (h 0 13 + 1)))))))) ∧ ((¬(0 ≤ x1 ∧ x1 < h 17 1)) → ((am_ok (h 0 13 + 1)) ∧ P (-100001) (am_up h 0 13 (h 0 13 + 1))))) : ∃ a h1, am_cd 2 108 [.inr (.inr 0), .inl x1, .inl x2] h (some (.inl a)) h1 ∧ P a h1 := by
  refine am_outi (d := 1) (ls := [some (.inr (.inr 0)), some (.inl x1), some (.inl x2)]) rfl ab108 ml108 (Nat.le_of_ble_eq_true rfl) np108 rfl ?_
  refine x_aload_n (q108c0 0 rfl) rfl ?_
  refine x_getr (q108c0 1 rfl) fd0_3 ?_
  refine x_iload_n (q108c0 2 rfl) rfl ?_
  refine x_cvi (q108c0 3 rfl) rfl oc17 rfl (Nat.le_of_ble_eq_true rfl) (am_lifti (Nat.le_of_ble_eq_true rfl) (e_Answers_has (r1 := h 17 1) (rfl) ?_))
  refine ⟨fun c1 => ?_, fun c1 => ?_⟩
  · replace H := H.1 c1
    refine x_if_eq_f (q108c0 4 rfl) (by decide) ?_
    refine x_iload_n (q108c0 5 rfl) rfl ?_
    refine x_if_lt (q108c0 6 rfl) (fun c2 => ?_) (fun c2 => ?_)
    · replace H := H.1 c2
      refine x_aload_n (q108c0 10 rfl) rfl ?_
      refine x_ldc (q108c0 11 rfl) ?_
      refine x_cvi (q108c0 12 rfl) rfl oc0 rfl (Nat.le_of_ble_eq_true rfl) (am_lifti (Nat.le_of_ble_eq_true rfl) (e_At_finding (r1 := h 0 13) (rfl) ?_))
      obtain ⟨s3, H⟩ := H
      refine ⟨s3, ?_⟩
      exact x_ireti (q108c0 13 rfl) zb108 H
    · replace H := H.2 c2
      refine x_iload_n (q108c0 7 rfl) rfl ?_
      refine x_iconst (q108c0 8 rfl) ?_
      refine x_icmp_le (q108c0 9 rfl) (fun c4 => ?_) (fun c4 => ?_)
      · replace H := H.1 c4
        refine x_aload_n (q108c0 14 rfl) rfl ?_
        refine x_getr (q108c0 15 rfl) fd0_3 ?_
        refine x_iload_n (q108c0 16 rfl) rfl ?_
        refine x_iload_n (q108c0 17 rfl) rfl ?_
        obtain ⟨a6, h5, w7, H⟩ := H
        refine x_cvi (q108c0 18 rfl) rfl oc17 rfl (Nat.le_of_ble_eq_true rfl) ⟨a6, h5, w7, ?_⟩
        exact x_ireti (q108c0 19 rfl) zb108 H
      · replace H := H.2 c4
        refine x_aload_n (q108c0 10 rfl) rfl ?_
        refine x_ldc (q108c0 11 rfl) ?_
        refine x_cvi (q108c0 12 rfl) rfl oc0 rfl (Nat.le_of_ble_eq_true rfl) (am_lifti (Nat.le_of_ble_eq_true rfl) (e_At_finding (r1 := h 0 13) (rfl) ?_))
        obtain ⟨s8, H⟩ := H
        refine ⟨s8, ?_⟩
        exact x_ireti (q108c0 13 rfl) zb108 H
  · replace H := H.2 c1
    refine x_if_eq_t (q108c0 4 rfl) (by decide) ?_
    refine x_aload_n (q108c0 10 rfl) rfl ?_
    refine x_ldc (q108c0 11 rfl) ?_
    refine x_cvi (q108c0 12 rfl) rfl oc0 rfl (Nat.le_of_ble_eq_true rfl) (am_lifti (Nat.le_of_ble_eq_true rfl) (e_At_finding (r1 := h 0 13) (rfl) ?_))
    obtain ⟨s9, H⟩ := H
    refine ⟨s9, ?_⟩
    exact x_ireti (q108c0 13 rfl) zb108 H
theorem e_At_feed {h : am_H} {x1 : Int} {y2 : Int64} {P : Int → am_H → Prop} (H : (x1 < 1 → ((am_ok (h 0 13 + 1)) ∧ P (-100001) (am_up h 0 13 (h 0 13 + 1)))) ∧ (1 ≤ x1 → ((x1 ≤ 8 → ((am_ok (h 24 1 + x1)) ∧ ((h 24 1 + x1 ≤ 80 → (∃ a7 h6, am_cd 1 62 [.inr (.inr 24), .inl x1, .inr (.inl y2)] h (some (.inl a7)) h6 ∧ P a7 h6)) ∧ (80 < h 24 1 + x1 → ((am_ok (h 0 13 + 1)) ∧ P (-100005) (am_up h 0 13 (h 0 13 + 1))))))) ∧ (8 < x1 → ((am_ok (h 0 13 + 1)) ∧ P (-100001) (am_up h 0 13 (h 0 13 + 1))))))) : ∃ a h1, am_cd 2 109 [.inr (.inr 0), .inl x1, .inr (.inl y2)] h (some (.inl a)) h1 ∧ P a h1 := by
  refine am_outi (d := 1) (ls := [some (.inr (.inr 0)), some (.inl x1), some (.inr (.inl y2)), none]) rfl ab109 ml109 (Nat.le_of_ble_eq_true rfl) np109 rfl ?_
  refine x_iload_n (q109c0 0 rfl) rfl ?_
  refine x_iconst (q109c0 1 rfl) ?_
  refine x_icmp_lt (q109c0 2 rfl) (fun c1 => ?_) (fun c1 => ?_)
  · replace H := H.1 c1
    refine x_aload_n (q109c0 6 rfl) rfl ?_
    refine x_ldc (q109c0 7 rfl) ?_
    refine x_cvi (q109c0 8 rfl) rfl oc0 rfl (Nat.le_of_ble_eq_true rfl) (am_lifti (Nat.le_of_ble_eq_true rfl) (e_At_finding (r1 := h 0 13) (rfl) ?_))
    obtain ⟨s2, H⟩ := H
    refine ⟨s2, ?_⟩
    exact x_ireti (q109c0 9 rfl) zb109 H
  · replace H := H.2 c1
    refine x_iload_n (q109c0 3 rfl) rfl ?_
    refine x_bipush (q109c0 4 rfl) ?_
    refine x_icmp_le (q109c0 5 rfl) (fun c3 => ?_) (fun c3 => ?_)
    · replace H := H.1 c3
      refine x_aload_n (q109c0 10 rfl) rfl ?_
      refine x_getr (q109c0 11 rfl) fd0_4 ?_
      refine x_iload_n (q109c0 12 rfl) rfl ?_
      refine x_cvi (q109c0 13 rfl) rfl oc24 rfl (Nat.le_of_ble_eq_true rfl) (am_lifti (Nat.le_of_ble_eq_true rfl) (e_Texts_hasRoomFor (r1 := h 24 1) (rfl) ?_))
      obtain ⟨s4, H⟩ := H
      refine ⟨s4, ?_⟩
      refine ⟨fun c5 => ?_, fun c5 => ?_⟩
      · replace H := H.1 c5
        refine x_if_ne_t (q109c0 14 rfl) (by decide) ?_
        refine x_aload_n (q109c0 19 rfl) rfl ?_
        refine x_getr (q109c0 20 rfl) fd0_4 ?_
        refine x_iload_n (q109c0 21 rfl) rfl ?_
        refine x_lload_n (q109c0 22 rfl) rfl ?_
        obtain ⟨a7, h6, w8, H⟩ := H
        refine x_cvi (q109c0 23 rfl) rfl oc24 rfl (Nat.le_of_ble_eq_true rfl) ⟨a7, h6, w8, ?_⟩
        exact x_ireti (q109c0 24 rfl) zb109 H
      · replace H := H.2 c5
        refine x_if_ne_f (q109c0 14 rfl) (by decide) ?_
        refine x_aload_n (q109c0 15 rfl) rfl ?_
        refine x_ldc (q109c0 16 rfl) ?_
        refine x_cvi (q109c0 17 rfl) rfl oc0 rfl (Nat.le_of_ble_eq_true rfl) (am_lifti (Nat.le_of_ble_eq_true rfl) (e_At_finding (r1 := h 0 13) (rfl) ?_))
        obtain ⟨s9, H⟩ := H
        refine ⟨s9, ?_⟩
        exact x_ireti (q109c0 18 rfl) zb109 H
    · replace H := H.2 c3
      refine x_aload_n (q109c0 6 rfl) rfl ?_
      refine x_ldc (q109c0 7 rfl) ?_
      refine x_cvi (q109c0 8 rfl) rfl oc0 rfl (Nat.le_of_ble_eq_true rfl) (am_lifti (Nat.le_of_ble_eq_true rfl) (e_At_finding (r1 := h 0 13) (rfl) ?_))
      obtain ⟨s10, H⟩ := H
      refine ⟨s10, ?_⟩
      exact x_ireti (q109c0 9 rfl) zb109 H
theorem e_At_changes {h : am_H} {x1 : Int} {P : Int → am_H → Prop} (H : ((0 ≤ x1 ∧ x1 < 4) → P (h 26 x1) h) ∧ ((¬(0 ≤ x1 ∧ x1 < 4)) → ((am_ok (h 0 13 + 1)) ∧ P (-100001) (am_up h 0 13 (h 0 13 + 1))))) : ∃ a h1, am_cd 2 110 [.inr (.inr 0), .inl x1] h (some (.inl a)) h1 ∧ P a h1 := by
  refine am_outi (d := 1) (ls := [some (.inr (.inr 0)), some (.inl x1)]) rfl ab110 ml110 (Nat.le_of_ble_eq_true rfl) np110 rfl ?_
  refine x_iload_n (q110c0 0 rfl) rfl ?_
  refine x_csi (q110c0 1 rfl) rfl rfl rfl (Nat.le_of_ble_eq_true rfl) (am_lifti (Nat.le_of_ble_eq_true rfl) (e_Texts_isText   ?_))
  refine ⟨fun c1 => ?_, fun c1 => ?_⟩
  · replace H := H.1 c1
    refine x_if_ne_t (q110c0 2 rfl) (by decide) ?_
    refine x_aload_n (q110c0 7 rfl) rfl ?_
    refine x_getr (q110c0 8 rfl) fd0_4 ?_
    refine x_iload_n (q110c0 9 rfl) rfl ?_
    refine x_cvi (q110c0 10 rfl) rfl oc24 rfl (Nat.le_of_ble_eq_true rfl) (am_lifti (Nat.le_of_ble_eq_true rfl) (e_Texts_sizeOf (r1 := h 26 x1) (rfl) ?_))
    refine ⟨c1, ?_⟩
    exact x_ireti (q110c0 11 rfl) zb110 H
  · replace H := H.2 c1
    refine x_if_ne_f (q110c0 2 rfl) (by decide) ?_
    refine x_aload_n (q110c0 3 rfl) rfl ?_
    refine x_ldc (q110c0 4 rfl) ?_
    refine x_cvi (q110c0 5 rfl) rfl oc0 rfl (Nat.le_of_ble_eq_true rfl) (am_lifti (Nat.le_of_ble_eq_true rfl) (e_At_finding (r1 := h 0 13) (rfl) ?_))
    obtain ⟨s2, H⟩ := H
    refine ⟨s2, ?_⟩
    exact x_ireti (q110c0 6 rfl) zb110 H
theorem e_At_put {h : am_H} {x1 : Int} {x2 : Int} {x3 : Int} {P : Int → am_H → Prop} (H : ((0 ≤ x1 ∧ x1 < 4) → ((h 48 x1 = 0 → ((am_ok (h 0 13 + 1)) ∧ P (-100002) (am_up h 0 13 (h 0 13 + 1)))) ∧ (h 48 x1 ≠ 0 → ((x2 < 0 → ((am_ok (h 0 13 + 1)) ∧ P (-100001) (am_up h 0 13 (h 0 13 + 1)))) ∧ (0 ≤ x2 → ((x2 < h 49 x1 → (∃ h7, am_cd 1 56 [.inr (.inr 47), .inl x1, .inl x2, .inl x3] h none h7 ∧ P 0 h7)) ∧ (h 49 x1 ≤ x2 → ((am_ok (h 0 13 + 1)) ∧ P (-100001) (am_up h 0 13 (h 0 13 + 1)))))))))) ∧ ((¬(0 ≤ x1 ∧ x1 < 4)) → ((am_ok (h 0 13 + 1)) ∧ P (-100001) (am_up h 0 13 (h 0 13 + 1))))) : ∃ a h1, am_cd 2 111 [.inr (.inr 0), .inl x1, .inl x2, .inl x3] h (some (.inl a)) h1 ∧ P a h1 := by
  refine am_outi (d := 1) (ls := [some (.inr (.inr 0)), some (.inl x1), some (.inl x2), some (.inl x3)]) rfl ab111 ml111 (Nat.le_of_ble_eq_true rfl) np111 rfl ?_
  refine x_iload_n (q111c0 0 rfl) rfl ?_
  refine x_csi (q111c0 1 rfl) rfl rfl rfl (Nat.le_of_ble_eq_true rfl) (am_lifti (Nat.le_of_ble_eq_true rfl) (e_Sheets_isSheet   ?_))
  refine ⟨fun c1 => ?_, fun c1 => ?_⟩
  · replace H := H.1 c1
    refine x_if_ne_t (q111c0 2 rfl) (by decide) ?_
    refine x_aload_n (q111c0 7 rfl) rfl ?_
    refine x_getr (q111c0 8 rfl) fd0_9 ?_
    refine x_iload_n (q111c0 9 rfl) rfl ?_
    refine x_cvi (q111c0 10 rfl) rfl oc47 rfl (Nat.le_of_ble_eq_true rfl) (am_lifti (Nat.le_of_ble_eq_true rfl) (e_Sheets_isMissing (r1 := h 48 x1) (rfl) ?_))
    refine ⟨c1, ?_⟩
    refine ⟨fun c2 => ?_, fun c2 => ?_⟩
    · replace H := H.1 c2
      refine x_if_eq_f (q111c0 11 rfl) (by decide) ?_
      refine x_aload_n (q111c0 12 rfl) rfl ?_
      refine x_ldc (q111c0 13 rfl) ?_
      refine x_cvi (q111c0 14 rfl) rfl oc0 rfl (Nat.le_of_ble_eq_true rfl) (am_lifti (Nat.le_of_ble_eq_true rfl) (e_At_finding (r1 := h 0 13) (rfl) ?_))
      obtain ⟨s3, H⟩ := H
      refine ⟨s3, ?_⟩
      exact x_ireti (q111c0 15 rfl) zb111 H
    · replace H := H.2 c2
      refine x_if_eq_t (q111c0 11 rfl) (by decide) ?_
      refine x_iload_n (q111c0 16 rfl) rfl ?_
      refine x_if_lt (q111c0 17 rfl) (fun c4 => ?_) (fun c4 => ?_)
      · replace H := H.1 c4
        refine x_aload_n (q111c0 24 rfl) rfl ?_
        refine x_ldc (q111c0 25 rfl) ?_
        refine x_cvi (q111c0 26 rfl) rfl oc0 rfl (Nat.le_of_ble_eq_true rfl) (am_lifti (Nat.le_of_ble_eq_true rfl) (e_At_finding (r1 := h 0 13) (rfl) ?_))
        obtain ⟨s5, H⟩ := H
        refine ⟨s5, ?_⟩
        exact x_ireti (q111c0 27 rfl) zb111 H
      · replace H := H.2 c4
        refine x_iload_n (q111c0 18 rfl) rfl ?_
        refine x_aload_n (q111c0 19 rfl) rfl ?_
        refine x_getr (q111c0 20 rfl) fd0_9 ?_
        refine x_iload_n (q111c0 21 rfl) rfl ?_
        refine x_cvi (q111c0 22 rfl) rfl oc47 rfl (Nat.le_of_ble_eq_true rfl) (am_lifti (Nat.le_of_ble_eq_true rfl) (e_Sheets_sizeOf (r1 := h 49 x1) (rfl) ?_))
        refine ⟨c1, ?_⟩
        refine x_icmp_lt (q111c0 23 rfl) (fun c6 => ?_) (fun c6 => ?_)
        · replace H := H.1 c6
          refine x_aload_n (q111c0 28 rfl) rfl ?_
          refine x_getr (q111c0 29 rfl) fd0_9 ?_
          refine x_iload_n (q111c0 30 rfl) rfl ?_
          refine x_iload_n (q111c0 31 rfl) rfl ?_
          refine x_iload_n (q111c0 32 rfl) rfl ?_
          obtain ⟨h7, w8, H⟩ := H
          refine x_cvv (q111c0 33 rfl) rfl oc47 rfl (Nat.le_of_ble_eq_true rfl) ⟨h7, w8, ?_⟩
          refine x_iconst (q111c0 34 rfl) ?_
          exact x_ireti (q111c0 35 rfl) zb111 H
        · replace H := H.2 c6
          refine x_aload_n (q111c0 24 rfl) rfl ?_
          refine x_ldc (q111c0 25 rfl) ?_
          refine x_cvi (q111c0 26 rfl) rfl oc0 rfl (Nat.le_of_ble_eq_true rfl) (am_lifti (Nat.le_of_ble_eq_true rfl) (e_At_finding (r1 := h 0 13) (rfl) ?_))
          obtain ⟨s9, H⟩ := H
          refine ⟨s9, ?_⟩
          exact x_ireti (q111c0 27 rfl) zb111 H
  · replace H := H.2 c1
    refine x_if_ne_f (q111c0 2 rfl) (by decide) ?_
    refine x_aload_n (q111c0 3 rfl) rfl ?_
    refine x_ldc (q111c0 4 rfl) ?_
    refine x_cvi (q111c0 5 rfl) rfl oc0 rfl (Nat.le_of_ble_eq_true rfl) (am_lifti (Nat.le_of_ble_eq_true rfl) (e_At_finding (r1 := h 0 13) (rfl) ?_))
    obtain ⟨s10, H⟩ := H
    refine ⟨s10, ?_⟩
    exact x_ireti (q111c0 6 rfl) zb111 H
theorem e_At_copy {h : am_H} {x1 : Int} {x2 : Int} {x3 : Int} {x4 : Int} {x5 : Int} {P : Int → am_H → Prop} (H : ((0 ≤ x1 ∧ x1 < 4) → (((0 ≤ x3 ∧ x3 < 4) → ((h 48 x1 = 0 → ((am_ok (h 0 13 + 1)) ∧ P (-100002) (am_up h 0 13 (h 0 13 + 1)))) ∧ (h 48 x1 ≠ 0 → ((h 48 x3 = 0 → ((am_ok (h 0 13 + 1)) ∧ P (-100002) (am_up h 0 13 (h 0 13 + 1)))) ∧ (h 48 x3 ≠ 0 → ((h 48 x1 = h 48 x3 → ((x2 < 0 → ((am_ok (h 0 13 + 1)) ∧ P (-100001) (am_up h 0 13 (h 0 13 + 1)))) ∧ (0 ≤ x2 → ((x5 < 0 → ((am_ok (h 0 13 + 1)) ∧ P (-100001) (am_up h 0 13 (h 0 13 + 1)))) ∧ (0 ≤ x5 → ((h 49 x1 < x5 → ((am_ok (h 0 13 + 1)) ∧ P (-100001) (am_up h 0 13 (h 0 13 + 1)))) ∧ (x5 ≤ h 49 x1 → ((am_ok (h 49 x1 - x5)) ∧ ((h 49 x1 - x5 < x2 → ((am_ok (h 0 13 + 1)) ∧ P (-100001) (am_up h 0 13 (h 0 13 + 1)))) ∧ (x2 ≤ h 49 x1 - x5 → ((x4 < 0 → ((am_ok (h 0 13 + 1)) ∧ P (-100001) (am_up h 0 13 (h 0 13 + 1)))) ∧ (0 ≤ x4 → ((h 49 x3 < x5 → ((am_ok (h 0 13 + 1)) ∧ P (-100001) (am_up h 0 13 (h 0 13 + 1)))) ∧ (x5 ≤ h 49 x3 → ((am_ok (h 49 x3 - x5)) ∧ ((h 49 x3 - x5 < x4 → ((am_ok (h 0 13 + 1)) ∧ P (-100001) (am_up h 0 13 (h 0 13 + 1)))) ∧ (x4 ≤ h 49 x3 - x5 → (∃ h24, am_cd 1 59 [.inr (.inr 47), .inl x1, .inl x2, .inl x3, .inl x4, .inl x5] h none h24 ∧ P x5 h24)))))))))))))))))) ∧ (h 48 x1 ≠ h 48 x3 → ((am_ok (h 0 13 + 1)) ∧ P (-100004) (am_up h 0 13 (h 0 13 + 1)))))))))) ∧ ((¬(0 ≤ x3 ∧ x3 < 4)) → ((am_ok (h 0 13 + 1)) ∧ P (-100001) (am_up h 0 13 (h 0 13 + 1)))))) ∧ ((¬(0 ≤ x1 ∧ x1 < 4)) → ((am_ok (h 0 13 + 1)) ∧ P (-100001) (am_up h 0 13 (h 0 13 + 1))))) : ∃ a h1, am_cd 2 112 [.inr (.inr 0), .inl x1, .inl x2, .inl x3, .inl x4, .inl x5] h (some (.inl a)) h1 ∧ P a h1 := by
  refine am_outi (d := 1) (ls := [some (.inr (.inr 0)), some (.inl x1), some (.inl x2), some (.inl x3), some (.inl x4), some (.inl x5)]) rfl ab112 ml112 (Nat.le_of_ble_eq_true rfl) np112 rfl ?_
  refine x_iload_n (q112c0 0 rfl) rfl ?_
  refine x_csi (q112c0 1 rfl) rfl rfl rfl (Nat.le_of_ble_eq_true rfl) (am_lifti (Nat.le_of_ble_eq_true rfl) (e_Sheets_isSheet   ?_))
  refine ⟨fun c1 => ?_, fun c1 => ?_⟩
  · replace H := H.1 c1
    refine x_if_eq_f (q112c0 2 rfl) (by decide) ?_
    refine x_iload_n (q112c0 3 rfl) rfl ?_
    refine x_csi (q112c0 4 rfl) rfl rfl rfl (Nat.le_of_ble_eq_true rfl) (am_lifti (Nat.le_of_ble_eq_true rfl) (e_Sheets_isSheet   ?_))
    refine ⟨fun c2 => ?_, fun c2 => ?_⟩
    · replace H := H.1 c2
      refine x_if_ne_t (q112c0 5 rfl) (by decide) ?_
      refine x_aload_n (q112c0 10 rfl) rfl ?_
      refine x_getr (q112c0 11 rfl) fd0_9 ?_
      refine x_iload_n (q112c0 12 rfl) rfl ?_
      refine x_cvi (q112c0 13 rfl) rfl oc47 rfl (Nat.le_of_ble_eq_true rfl) (am_lifti (Nat.le_of_ble_eq_true rfl) (e_Sheets_isMissing (r1 := h 48 x1) (rfl) ?_))
      refine ⟨c1, ?_⟩
      refine ⟨fun c3 => ?_, fun c3 => ?_⟩
      · replace H := H.1 c3
        refine x_if_ne_t (q112c0 14 rfl) (by decide) ?_
        refine x_aload_n (q112c0 20 rfl) rfl ?_
        refine x_ldc (q112c0 21 rfl) ?_
        refine x_cvi (q112c0 22 rfl) rfl oc0 rfl (Nat.le_of_ble_eq_true rfl) (am_lifti (Nat.le_of_ble_eq_true rfl) (e_At_finding (r1 := h 0 13) (rfl) ?_))
        obtain ⟨s4, H⟩ := H
        refine ⟨s4, ?_⟩
        exact x_ireti (q112c0 23 rfl) zb112 H
      · replace H := H.2 c3
        refine x_if_ne_f (q112c0 14 rfl) (by decide) ?_
        refine x_aload_n (q112c0 15 rfl) rfl ?_
        refine x_getr (q112c0 16 rfl) fd0_9 ?_
        refine x_iload_n (q112c0 17 rfl) rfl ?_
        refine x_cvi (q112c0 18 rfl) rfl oc47 rfl (Nat.le_of_ble_eq_true rfl) (am_lifti (Nat.le_of_ble_eq_true rfl) (e_Sheets_isMissing (r1 := h 48 x3) (rfl) ?_))
        refine ⟨c2, ?_⟩
        refine ⟨fun c5 => ?_, fun c5 => ?_⟩
        · replace H := H.1 c5
          refine x_if_eq_f (q112c0 19 rfl) (by decide) ?_
          refine x_aload_n (q112c0 20 rfl) rfl ?_
          refine x_ldc (q112c0 21 rfl) ?_
          refine x_cvi (q112c0 22 rfl) rfl oc0 rfl (Nat.le_of_ble_eq_true rfl) (am_lifti (Nat.le_of_ble_eq_true rfl) (e_At_finding (r1 := h 0 13) (rfl) ?_))
          obtain ⟨s6, H⟩ := H
          refine ⟨s6, ?_⟩
          exact x_ireti (q112c0 23 rfl) zb112 H
        · replace H := H.2 c5
          refine x_if_eq_t (q112c0 19 rfl) (by decide) ?_
          refine x_aload_n (q112c0 24 rfl) rfl ?_
          refine x_getr (q112c0 25 rfl) fd0_9 ?_
          refine x_iload_n (q112c0 26 rfl) rfl ?_
          refine x_cvi (q112c0 27 rfl) rfl oc47 rfl (Nat.le_of_ble_eq_true rfl) (am_lifti (Nat.le_of_ble_eq_true rfl) (e_Sheets_widthOf (r1 := h 48 x1) (rfl) ?_))
          refine ⟨c1, ?_⟩
          refine x_aload_n (q112c0 28 rfl) rfl ?_
          refine x_getr (q112c0 29 rfl) fd0_9 ?_
          refine x_iload_n (q112c0 30 rfl) rfl ?_
          refine x_cvi (q112c0 31 rfl) rfl oc47 rfl (Nat.le_of_ble_eq_true rfl) (am_lifti (Nat.le_of_ble_eq_true rfl) (e_Sheets_widthOf (r1 := h 48 x3) (rfl) ?_))
          refine ⟨c2, ?_⟩
          refine x_icmp_eq (q112c0 32 rfl) (fun c7 => ?_) (fun c7 => ?_)
          · replace H := H.1 c7
            refine x_aload_n (q112c0 37 rfl) rfl ?_
            refine x_getr (q112c0 38 rfl) fd0_9 ?_
            refine x_iload_n (q112c0 39 rfl) rfl ?_
            refine x_iload_n (q112c0 40 rfl) rfl ?_
            refine x_iload (q112c0 41 rfl) rfl ?_
            refine x_cvi (q112c0 42 rfl) rfl oc47 rfl (Nat.le_of_ble_eq_true rfl) (am_lifti (Nat.le_of_ble_eq_true rfl) (e_Sheets_hasPart (r1 := h 49 x1) (rfl) ?_))
            refine ⟨fun c8 => ?_, fun c8 => ?_⟩
            · replace H := H.1 c8
              refine x_if_eq_t (q112c0 43 rfl) (by decide) ?_
              refine x_aload_n (q112c0 51 rfl) rfl ?_
              refine x_ldc (q112c0 52 rfl) ?_
              refine x_cvi (q112c0 53 rfl) rfl oc0 rfl (Nat.le_of_ble_eq_true rfl) (am_lifti (Nat.le_of_ble_eq_true rfl) (e_At_finding (r1 := h 0 13) (rfl) ?_))
              obtain ⟨s9, H⟩ := H
              refine ⟨s9, ?_⟩
              exact x_ireti (q112c0 54 rfl) zb112 H
            · replace H := H.2 c8
              refine ⟨fun c10 => ?_, fun c10 => ?_⟩
              · replace H := H.1 c10
                refine x_if_eq_t (q112c0 43 rfl) (by decide) ?_
                refine x_aload_n (q112c0 51 rfl) rfl ?_
                refine x_ldc (q112c0 52 rfl) ?_
                refine x_cvi (q112c0 53 rfl) rfl oc0 rfl (Nat.le_of_ble_eq_true rfl) (am_lifti (Nat.le_of_ble_eq_true rfl) (e_At_finding (r1 := h 0 13) (rfl) ?_))
                obtain ⟨s11, H⟩ := H
                refine ⟨s11, ?_⟩
                exact x_ireti (q112c0 54 rfl) zb112 H
              · replace H := H.2 c10
                refine ⟨c1, ?_⟩
                refine ⟨fun c12 => ?_, fun c12 => ?_⟩
                · replace H := H.1 c12
                  refine x_if_eq_t (q112c0 43 rfl) (by decide) ?_
                  refine x_aload_n (q112c0 51 rfl) rfl ?_
                  refine x_ldc (q112c0 52 rfl) ?_
                  refine x_cvi (q112c0 53 rfl) rfl oc0 rfl (Nat.le_of_ble_eq_true rfl) (am_lifti (Nat.le_of_ble_eq_true rfl) (e_At_finding (r1 := h 0 13) (rfl) ?_))
                  obtain ⟨s13, H⟩ := H
                  refine ⟨s13, ?_⟩
                  exact x_ireti (q112c0 54 rfl) zb112 H
                · replace H := H.2 c12
                  obtain ⟨s14, H⟩ := H
                  refine ⟨s14, ?_⟩
                  refine ⟨fun c15 => ?_, fun c15 => ?_⟩
                  · replace H := H.1 c15
                    refine x_if_eq_t (q112c0 43 rfl) (by decide) ?_
                    refine x_aload_n (q112c0 51 rfl) rfl ?_
                    refine x_ldc (q112c0 52 rfl) ?_
                    refine x_cvi (q112c0 53 rfl) rfl oc0 rfl (Nat.le_of_ble_eq_true rfl) (am_lifti (Nat.le_of_ble_eq_true rfl) (e_At_finding (r1 := h 0 13) (rfl) ?_))
                    obtain ⟨s16, H⟩ := H
                    refine ⟨s16, ?_⟩
                    exact x_ireti (q112c0 54 rfl) zb112 H
                  · replace H := H.2 c15
                    refine x_if_eq_f (q112c0 43 rfl) (by decide) ?_
                    refine x_aload_n (q112c0 44 rfl) rfl ?_
                    refine x_getr (q112c0 45 rfl) fd0_9 ?_
                    refine x_iload_n (q112c0 46 rfl) rfl ?_
                    refine x_iload (q112c0 47 rfl) rfl ?_
                    refine x_iload (q112c0 48 rfl) rfl ?_
                    refine x_cvi (q112c0 49 rfl) rfl oc47 rfl (Nat.le_of_ble_eq_true rfl) (am_lifti (Nat.le_of_ble_eq_true rfl) (e_Sheets_hasPart (r1 := h 49 x3) (rfl) ?_))
                    refine ⟨fun c17 => ?_, fun c17 => ?_⟩
                    · replace H := H.1 c17
                      refine x_if_ne_f (q112c0 50 rfl) (by decide) ?_
                      refine x_aload_n (q112c0 51 rfl) rfl ?_
                      refine x_ldc (q112c0 52 rfl) ?_
                      refine x_cvi (q112c0 53 rfl) rfl oc0 rfl (Nat.le_of_ble_eq_true rfl) (am_lifti (Nat.le_of_ble_eq_true rfl) (e_At_finding (r1 := h 0 13) (rfl) ?_))
                      obtain ⟨s18, H⟩ := H
                      refine ⟨s18, ?_⟩
                      exact x_ireti (q112c0 54 rfl) zb112 H
                    · replace H := H.2 c17
                      refine ⟨fun q => absurd c10 (by omega), fun _ => ?_⟩
                      refine ⟨c2, ?_⟩
                      refine ⟨fun c19 => ?_, fun c19 => ?_⟩
                      · replace H := H.1 c19
                        refine x_if_ne_f (q112c0 50 rfl) (by decide) ?_
                        refine x_aload_n (q112c0 51 rfl) rfl ?_
                        refine x_ldc (q112c0 52 rfl) ?_
                        refine x_cvi (q112c0 53 rfl) rfl oc0 rfl (Nat.le_of_ble_eq_true rfl) (am_lifti (Nat.le_of_ble_eq_true rfl) (e_At_finding (r1 := h 0 13) (rfl) ?_))
                        obtain ⟨s20, H⟩ := H
                        refine ⟨s20, ?_⟩
                        exact x_ireti (q112c0 54 rfl) zb112 H
                      · replace H := H.2 c19
                        obtain ⟨s21, H⟩ := H
                        refine ⟨s21, ?_⟩
                        refine ⟨fun c22 => ?_, fun c22 => ?_⟩
                        · replace H := H.1 c22
                          refine x_if_ne_f (q112c0 50 rfl) (by decide) ?_
                          refine x_aload_n (q112c0 51 rfl) rfl ?_
                          refine x_ldc (q112c0 52 rfl) ?_
                          refine x_cvi (q112c0 53 rfl) rfl oc0 rfl (Nat.le_of_ble_eq_true rfl) (am_lifti (Nat.le_of_ble_eq_true rfl) (e_At_finding (r1 := h 0 13) (rfl) ?_))
                          obtain ⟨s23, H⟩ := H
                          refine ⟨s23, ?_⟩
                          exact x_ireti (q112c0 54 rfl) zb112 H
                        · replace H := H.2 c22
                          refine x_if_ne_t (q112c0 50 rfl) (by decide) ?_
                          refine x_aload_n (q112c0 55 rfl) rfl ?_
                          refine x_getr (q112c0 56 rfl) fd0_9 ?_
                          refine x_iload_n (q112c0 57 rfl) rfl ?_
                          refine x_iload_n (q112c0 58 rfl) rfl ?_
                          refine x_iload_n (q112c0 59 rfl) rfl ?_
                          refine x_iload (q112c1 0 rfl) rfl ?_
                          refine x_iload (q112c1 1 rfl) rfl ?_
                          obtain ⟨h24, w25, H⟩ := H
                          refine x_cvv (q112c1 2 rfl) rfl oc47 rfl (Nat.le_of_ble_eq_true rfl) ⟨h24, w25, ?_⟩
                          refine x_iload (q112c1 3 rfl) rfl ?_
                          exact x_ireti (q112c1 4 rfl) zb112 H
          · replace H := H.2 c7
            refine x_aload_n (q112c0 33 rfl) rfl ?_
            refine x_ldc (q112c0 34 rfl) ?_
            refine x_cvi (q112c0 35 rfl) rfl oc0 rfl (Nat.le_of_ble_eq_true rfl) (am_lifti (Nat.le_of_ble_eq_true rfl) (e_At_finding (r1 := h 0 13) (rfl) ?_))
            obtain ⟨s26, H⟩ := H
            refine ⟨s26, ?_⟩
            exact x_ireti (q112c0 36 rfl) zb112 H
    · replace H := H.2 c2
      refine x_if_ne_f (q112c0 5 rfl) (by decide) ?_
      refine x_aload_n (q112c0 6 rfl) rfl ?_
      refine x_ldc (q112c0 7 rfl) ?_
      refine x_cvi (q112c0 8 rfl) rfl oc0 rfl (Nat.le_of_ble_eq_true rfl) (am_lifti (Nat.le_of_ble_eq_true rfl) (e_At_finding (r1 := h 0 13) (rfl) ?_))
      obtain ⟨s27, H⟩ := H
      refine ⟨s27, ?_⟩
      exact x_ireti (q112c0 9 rfl) zb112 H
  · replace H := H.2 c1
    refine x_if_eq_t (q112c0 2 rfl) (by decide) ?_
    refine x_aload_n (q112c0 6 rfl) rfl ?_
    refine x_ldc (q112c0 7 rfl) ?_
    refine x_cvi (q112c0 8 rfl) rfl oc0 rfl (Nat.le_of_ble_eq_true rfl) (am_lifti (Nat.le_of_ble_eq_true rfl) (e_At_finding (r1 := h 0 13) (rfl) ?_))
    obtain ⟨s28, H⟩ := H
    refine ⟨s28, ?_⟩
    exact x_ireti (q112c0 9 rfl) zb112 H
theorem e_At_isRather {h : am_H} {x1 : Int} {x2 : Int} {r1 r2 r3 r4 : Int} (hr1 : h 6 x1 = r1) (hr2 : h 6 x2 = r2) (hr3 : h 4 x1 = r3) (hr4 : h 4 x2 = r4) {P : Int → am_H → Prop} (H : ((0 ≤ x1 ∧ x1 < 12) ∧ (0 ≤ x2 ∧ x2 < 12)) ∧ (((r2 < r1 ∨ (r1 = r2 ∧ r4 < r3)) → P 1 h) ∧ ((¬(r2 < r1 ∨ (r1 = r2 ∧ r4 < r3))) → P 0 h))) : ∃ a h1, am_cd 2 113 [.inr (.inr 0), .inl x1, .inl x2] h (some (.inl a)) h1 ∧ P a h1 := by
  refine am_outi (d := 1) (ls := [some (.inr (.inr 0)), some (.inl x1), some (.inl x2)]) rfl ab113 ml113 (Nat.le_of_ble_eq_true rfl) np113 rfl ?_
  obtain ⟨⟨z0, z1⟩, H⟩ := H
  refine x_aload_n (q113c0 0 rfl) rfl ?_
  refine x_getr (q113c0 1 rfl) fd0_0 ?_
  refine x_iload_n (q113c0 2 rfl) rfl ?_
  refine x_cvi (q113c0 3 rfl) rfl oc1 rfl (Nat.le_of_ble_eq_true rfl) (am_lifti (Nat.le_of_ble_eq_true rfl) (e_Land_walkTo (r1 := r1) (hr1) ?_))
  have s1 := z0
  refine ⟨s1, ?_⟩
  refine x_aload_n (q113c0 4 rfl) rfl ?_
  refine x_getr (q113c0 5 rfl) fd0_0 ?_
  refine x_iload_n (q113c0 6 rfl) rfl ?_
  refine x_cvi (q113c0 7 rfl) rfl oc1 rfl (Nat.le_of_ble_eq_true rfl) (am_lifti (Nat.le_of_ble_eq_true rfl) (e_Land_walkTo (r1 := r2) (hr2) ?_))
  have s2 := z1
  refine ⟨s2, ?_⟩
  refine x_icmp_eq (q113c0 8 rfl) (fun c3 => ?_) (fun c3 => ?_)
  · refine x_aload_n (q113c0 22 rfl) rfl ?_
    refine x_getr (q113c0 23 rfl) fd0_0 ?_
    refine x_iload_n (q113c0 24 rfl) rfl ?_
    refine x_cvi (q113c0 25 rfl) rfl oc1 rfl (Nat.le_of_ble_eq_true rfl) (am_lifti (Nat.le_of_ble_eq_true rfl) (e_Land_folkAt (r1 := r3) (hr3) ?_))
    refine ⟨s1, ?_⟩
    refine x_aload_n (q113c0 26 rfl) rfl ?_
    refine x_getr (q113c0 27 rfl) fd0_0 ?_
    refine x_iload_n (q113c0 28 rfl) rfl ?_
    refine x_cvi (q113c0 29 rfl) rfl oc1 rfl (Nat.le_of_ble_eq_true rfl) (am_lifti (Nat.le_of_ble_eq_true rfl) (e_Land_folkAt (r1 := r4) (hr4) ?_))
    refine ⟨s2, ?_⟩
    refine x_icmp_le (q113c0 30 rfl) (fun c4 => ?_) (fun c4 => ?_)
    · refine x_iconst (q113c0 33 rfl) ?_
      exact x_iretz (q113c0 34 rfl) (.inl rfl) (H.2 (by omega))
    · refine x_iconst (q113c0 31 rfl) ?_
      refine x_goto (q113c0 32 rfl) ?_
      exact x_iretz (q113c0 34 rfl) (.inr rfl) (H.1 (by omega))
  · refine x_aload_n (q113c0 9 rfl) rfl ?_
    refine x_getr (q113c0 10 rfl) fd0_0 ?_
    refine x_iload_n (q113c0 11 rfl) rfl ?_
    refine x_cvi (q113c0 12 rfl) rfl oc1 rfl (Nat.le_of_ble_eq_true rfl) (am_lifti (Nat.le_of_ble_eq_true rfl) (e_Land_walkTo (r1 := r1) (hr1) ?_))
    refine ⟨s1, ?_⟩
    refine x_aload_n (q113c0 13 rfl) rfl ?_
    refine x_getr (q113c0 14 rfl) fd0_0 ?_
    refine x_iload_n (q113c0 15 rfl) rfl ?_
    refine x_cvi (q113c0 16 rfl) rfl oc1 rfl (Nat.le_of_ble_eq_true rfl) (am_lifti (Nat.le_of_ble_eq_true rfl) (e_Land_walkTo (r1 := r2) (hr2) ?_))
    refine ⟨s2, ?_⟩
    refine x_icmp_le (q113c0 17 rfl) (fun c5 => ?_) (fun c5 => ?_)
    · refine x_iconst (q113c0 20 rfl) ?_
      exact x_iretz (q113c0 21 rfl) (.inl rfl) (H.2 (by omega))
    · refine x_iconst (q113c0 18 rfl) ?_
      refine x_goto (q113c0 19 rfl) ?_
      exact x_iretz (q113c0 21 rfl) (.inr rfl) (H.1 (by omega))
theorem e_Mo_isVillage {h : am_H} {x1 : Int} {r1 : Int} (hr1 : h 57 0 = r1) {P : Int → am_H → Prop} (H : (am_ok (r1 - 1)) ∧ (((0 ≤ x1 ∧ x1 ≤ r1 - 1) → P 1 h) ∧ ((¬(0 ≤ x1 ∧ x1 ≤ r1 - 1)) → P 0 h))) : ∃ a h1, am_cd 2 114 [.inr (.inr 56), .inl x1] h (some (.inl a)) h1 ∧ P a h1 := by
  refine am_outi (d := 1) (ls := [some (.inr (.inr 56)), some (.inl x1)]) rfl ab114 ml114 (Nat.le_of_ble_eq_true rfl) np114 rfl ?_
  obtain ⟨z0, H⟩ := H
  have s1 := z0
  refine x_iload_n (q114c0 0 rfl) rfl ?_
  refine x_iconst (q114c0 1 rfl) ?_
  refine x_aload_n (q114c0 2 rfl) rfl ?_
  refine x_getr (q114c0 3 rfl) fd56_0 ?_
  refine x_iconst (q114c0 4 rfl) ?_
  refine x_iaload (q114c0 5 rfl) (al57 _) rfl (ag_l rfl rfl (hr1)) (by decide) ?_
  refine x_iconst (q114c0 6 rfl) ?_
  refine x_isub (q114c0 7 rfl) s1 ?_
  refine x_csi (q114c0 8 rfl) rfl rfl rfl (Nat.le_of_ble_eq_true rfl) (am_lifti (Nat.le_of_ble_eq_true rfl) (e_Mo_in   ?_))
  refine ⟨fun c2 => ?_, fun c2 => ?_⟩
  · exact x_iretz (q114c0 9 rfl) (.inr rfl) (H.1 (by omega))
  · exact x_iretz (q114c0 9 rfl) (.inl rfl) (H.2 (by omega))
theorem e_Mo_isForm {h : am_H} {x1 : Int} {r1 : Int} (hr1 : h 57 2 = r1) {P : Int → am_H → Prop} (H : (am_ok (r1 - 1)) ∧ (((0 ≤ x1 ∧ x1 ≤ r1 - 1) → P 1 h) ∧ ((¬(0 ≤ x1 ∧ x1 ≤ r1 - 1)) → P 0 h))) : ∃ a h1, am_cd 2 115 [.inr (.inr 56), .inl x1] h (some (.inl a)) h1 ∧ P a h1 := by
  refine am_outi (d := 1) (ls := [some (.inr (.inr 56)), some (.inl x1)]) rfl ab115 ml115 (Nat.le_of_ble_eq_true rfl) np115 rfl ?_
  obtain ⟨z0, H⟩ := H
  have s1 := z0
  refine x_iload_n (q115c0 0 rfl) rfl ?_
  refine x_iconst (q115c0 1 rfl) ?_
  refine x_aload_n (q115c0 2 rfl) rfl ?_
  refine x_getr (q115c0 3 rfl) fd56_0 ?_
  refine x_iconst (q115c0 4 rfl) ?_
  refine x_iaload (q115c0 5 rfl) (al57 _) rfl (ag_l rfl rfl (hr1)) (by decide) ?_
  refine x_iconst (q115c0 6 rfl) ?_
  refine x_isub (q115c0 7 rfl) s1 ?_
  refine x_csi (q115c0 8 rfl) rfl rfl rfl (Nat.le_of_ble_eq_true rfl) (am_lifti (Nat.le_of_ble_eq_true rfl) (e_Mo_in   ?_))
  refine ⟨fun c2 => ?_, fun c2 => ?_⟩
  · exact x_iretz (q115c0 9 rfl) (.inr rfl) (H.1 (by omega))
  · exact x_iretz (q115c0 9 rfl) (.inl rfl) (H.2 (by omega))
theorem e_Mo_isThing {h : am_H} {x0 : Int} {P : Int → am_H → Prop} (H : ((0 ≤ x0 ∧ x0 ≤ 5) → P 1 h) ∧ ((¬(0 ≤ x0 ∧ x0 ≤ 5)) → P 0 h)) : ∃ a h1, am_cd 2 116 [.inl x0] h (some (.inl a)) h1 ∧ P a h1 := by
  refine am_outi (d := 1) (ls := [some (.inl x0)]) rfl ab116 ml116 (Nat.le_of_ble_eq_true rfl) np116 rfl ?_
  refine x_iload_n (q116c0 0 rfl) rfl ?_
  refine x_iconst (q116c0 1 rfl) ?_
  refine x_iconst (q116c0 2 rfl) ?_
  refine x_csi (q116c0 3 rfl) rfl rfl rfl (Nat.le_of_ble_eq_true rfl) (am_lifti (Nat.le_of_ble_eq_true rfl) (e_Mo_in   ?_))
  refine ⟨fun c1 => ?_, fun c1 => ?_⟩
  · exact x_iretz (q116c0 4 rfl) (.inr rfl) (H.1 (by omega))
  · exact x_iretz (q116c0 4 rfl) (.inl rfl) (H.2 (by omega))
theorem e_Mo_isDay {h : am_H} {x0 : Int} {P : Int → am_H → Prop} (H : ((0 ≤ x0 ∧ x0 ≤ 999) → P 1 h) ∧ ((¬(0 ≤ x0 ∧ x0 ≤ 999)) → P 0 h)) : ∃ a h1, am_cd 2 117 [.inl x0] h (some (.inl a)) h1 ∧ P a h1 := by
  refine am_outi (d := 1) (ls := [some (.inl x0)]) rfl ab117 ml117 (Nat.le_of_ble_eq_true rfl) np117 rfl ?_
  refine x_iload_n (q117c0 0 rfl) rfl ?_
  refine x_iconst (q117c0 1 rfl) ?_
  refine x_sipush (q117c0 2 rfl) ?_
  refine x_csi (q117c0 3 rfl) rfl rfl rfl (Nat.le_of_ble_eq_true rfl) (am_lifti (Nat.le_of_ble_eq_true rfl) (e_Mo_in   ?_))
  refine ⟨fun c1 => ?_, fun c1 => ?_⟩
  · exact x_iretz (q117c0 4 rfl) (.inr rfl) (H.1 (by omega))
  · exact x_iretz (q117c0 4 rfl) (.inl rfl) (H.2 (by omega))
theorem e_Mo_undo {h : am_H}  {P : Int → am_H → Prop} (H : (h 56 2 ≠ 0 → ((am_ok (h 56 2 - 1)) ∧ am_x (am_cd 1) 118 (am_qi P) 0 26 [some (.inr (.inr 56)), some (.inl 0)] [] (am_up h 56 2 (h 56 2 - 1)))) ∧ (h 56 2 = 0 → ((am_ok (h 56 3 + 1)) ∧ P (-100006) (am_up h 56 3 (h 56 3 + 1))))) : ∃ a h1, am_cd 2 118 [.inr (.inr 56)] h (some (.inl a)) h1 ∧ P a h1 := by
  refine am_outi (d := 1) (ls := [some (.inr (.inr 56)), none]) rfl ab118 ml118 (Nat.le_of_ble_eq_true rfl) np118 rfl ?_
  refine x_aload_n (q118c0 0 rfl) rfl ?_
  refine x_getf (q118c0 1 rfl) fd56_2 (rfl) ?_
  refine x_if_ne (q118c0 2 rfl) (fun c1 => ?_) (fun c1 => ?_)
  · replace H := H.1 c1
    obtain ⟨s2, H⟩ := H
    refine x_aload_n (q118c0 7 rfl) rfl ?_
    refine x_dup (q118c0 8 rfl) trivial ?_
    refine x_getf (q118c0 9 rfl) fd56_2 (rfl) ?_
    refine x_iconst (q118c0 10 rfl) ?_
    refine x_isub (q118c0 11 rfl) s2 ?_
    refine x_putf (q118c0 12 rfl) fd56_2 ?_
    refine x_iconst (q118c0 13 rfl) ?_
    refine x_istore_n (q118c0 14 rfl) ⟨Nat.le_of_ble_eq_true rfl, trivial⟩ ?_
    exact H
  · replace H := H.2 c1
    refine x_aload_n (q118c0 3 rfl) rfl ?_
    refine x_ldc (q118c0 4 rfl) ?_
    refine x_cvi (q118c0 5 rfl) rfl oc56 rfl (Nat.le_of_ble_eq_true rfl) (am_lifti (Nat.le_of_ble_eq_true rfl) (e_Mo_finds (r1 := h 56 3) (rfl) ?_))
    obtain ⟨s3, H⟩ := H
    refine ⟨s3, ?_⟩
    exact x_ireti (q118c0 6 rfl) zb118 H
theorem g_Mo_undo_26 {h : am_H} {x1 : Int} {P : Int → am_H → Prop} (H : (820 ≤ x1 → P (h 56 2) h) ∧ (x1 < 820 → ((am_ok (820 * h 56 2) ∧ am_ok (820 * h 56 2 + x1) ∧ (0 ≤ 820 * h 56 2 + x1 ∧ 820 * h 56 2 + x1 < 4920) ∧ (0 ≤ x1 ∧ x1 < 820) ∧ am_ok (x1 + 1)) ∧ am_x (am_cd 1) 118 (am_qi P) 0 26 [some (.inr (.inr 56)), some (.inl (x1 + 1))] [] (am_up h 57 x1 (h 58 (820 * h 56 2 + x1)))))) : am_x (am_cd 1) 118 (am_qi P) 0 26 [some (.inr (.inr 56)), some (.inl x1)] [] h := by
  refine x_iload_n (q118c0 15 rfl) rfl ?_
  refine x_sipush (q118c0 16 rfl) ?_
  refine x_icmp_ge (q118c0 17 rfl) (fun c1 => ?_) (fun c1 => ?_)
  · replace H := H.1 c1
    refine x_aload_n (q118c0 33 rfl) rfl ?_
    refine x_getf (q118c0 34 rfl) fd56_2 (rfl) ?_
    exact x_ireti (q118c0 35 rfl) zb118 H
  · replace H := H.2 c1
    obtain ⟨⟨s2, s3, s4, s5, s6⟩, H⟩ := H
    refine x_aload_n (q118c0 18 rfl) rfl ?_
    refine x_getr (q118c0 19 rfl) fd56_0 ?_
    refine x_iload_n (q118c0 20 rfl) rfl ?_
    refine x_aload_n (q118c0 21 rfl) rfl ?_
    refine x_getr (q118c0 22 rfl) fd56_1 ?_
    refine x_sipush (q118c0 23 rfl) ?_
    refine x_aload_n (q118c0 24 rfl) rfl ?_
    refine x_getf (q118c0 25 rfl) fd56_2 (rfl) ?_
    refine x_imul (q118c0 26 rfl) s2 ?_
    refine x_iload_n (q118c0 27 rfl) rfl ?_
    refine x_iadd (q118c0 28 rfl) s3 ?_
    refine x_iaload (q118c0 29 rfl) (al58 _) rfl (ag_l rfl rfl (rfl)) s4 ?_
    refine x_iastore (q118c0 30 rfl) (al57 _) rfl (Nat.le_of_ble_eq_true rfl) s5 (j := x1) rfl ?_
    refine x_iinc (q118c0 31 rfl) rfl ⟨Nat.le_of_ble_eq_true rfl, trivial⟩ s6 ?_
    refine x_goto (q118c0 32 rfl) ?_
    exact H
theorem e_Mo_village {h : am_H} {x1 : Int} {x2 : Int} {P : Int → am_H → Prop} (H : ((0 ≤ x1 ∧ x1 ≤ 9999) → (((1 ≤ x2 ∧ x2 ≤ 999) → ((h 57 0 ≠ 12 → (∃ h4, am_cd 1 77 [.inr (.inr 56)] h none h4 ∧ ((am_ok (h4 57 0 + 1) ∧ am_ok (3 * h4 57 0) ∧ am_ok (10 + 3 * h4 57 0) ∧ (0 ≤ x1) ∧ (0 ≤ 10 + 3 * h4 57 0 ∧ 10 + 3 * h4 57 0 < 820) ∧ am_ok (10 + 3 * h4 57 0 + 1) ∧ (0 ≤ 10 + 3 * h4 57 0 + 1 ∧ 10 + 3 * h4 57 0 + 1 < 820) ∧ am_ok (10 + 3 * h4 57 0 + 2) ∧ (0 ≤ 10 + 3 * h4 57 0 + 2 ∧ 10 + 3 * h4 57 0 + 2 < 820)) ∧ am_x (am_cd 1) 119 (am_qi P) 0 117 [some (.inr (.inr 56)), none, none, some (.inl (h4 57 0)), some (.inl 0)] [] (am_up (am_up (am_up (am_up h4 57 0 (h4 57 0 + 1)) 57 (10 + 3 * h4 57 0) (x1 / 100)) 57 (11 + 3 * h4 57 0) (x1 % 100)) 57 (12 + 3 * h4 57 0) x2)))) ∧ (h 57 0 = 12 → ((am_ok (h 56 3 + 1)) ∧ P (-100005) (am_up h 56 3 (h 56 3 + 1)))))) ∧ ((¬(1 ≤ x2 ∧ x2 ≤ 999)) → ((am_ok (h 56 3 + 1)) ∧ P (-100001) (am_up h 56 3 (h 56 3 + 1)))))) ∧ ((¬(0 ≤ x1 ∧ x1 ≤ 9999)) → ((am_ok (h 56 3 + 1)) ∧ P (-100001) (am_up h 56 3 (h 56 3 + 1))))) : ∃ a h1, am_cd 2 119 [.inr (.inr 56), .inl x1, .inl x2] h (some (.inl a)) h1 ∧ P a h1 := by
  refine am_outi (d := 1) (ls := [some (.inr (.inr 56)), some (.inl x1), some (.inl x2), none, none]) rfl ab119 ml119 (Nat.le_of_ble_eq_true rfl) np119 rfl ?_
  refine x_iload_n (q119c0 0 rfl) rfl ?_
  refine x_iconst (q119c0 1 rfl) ?_
  refine x_sipush (q119c0 2 rfl) ?_
  refine x_csi (q119c0 3 rfl) rfl rfl rfl (Nat.le_of_ble_eq_true rfl) (am_lifti (Nat.le_of_ble_eq_true rfl) (e_Mo_in   ?_))
  refine ⟨fun c1 => ?_, fun c1 => ?_⟩
  · replace H := H.1 c1
    refine x_if_eq_f (q119c0 4 rfl) (by decide) ?_
    refine x_iload_n (q119c0 5 rfl) rfl ?_
    refine x_iconst (q119c0 6 rfl) ?_
    refine x_sipush (q119c0 7 rfl) ?_
    refine x_csi (q119c0 8 rfl) rfl rfl rfl (Nat.le_of_ble_eq_true rfl) (am_lifti (Nat.le_of_ble_eq_true rfl) (e_Mo_in   ?_))
    refine ⟨fun c2 => ?_, fun c2 => ?_⟩
    · replace H := H.1 c2
      refine x_if_ne_t (q119c0 9 rfl) (by decide) ?_
      refine x_aload_n (q119c0 14 rfl) rfl ?_
      refine x_getr (q119c0 15 rfl) fd56_0 ?_
      refine x_iconst (q119c0 16 rfl) ?_
      refine x_iaload (q119c0 17 rfl) (al57 _) rfl (ag_l rfl rfl (rfl)) (by decide) ?_
      refine x_bipush (q119c0 18 rfl) ?_
      refine x_icmp_ne (q119c0 19 rfl) (fun c3 => ?_) (fun c3 => ?_)
      · replace H := H.1 c3
        refine x_aload_n (q119c0 24 rfl) rfl ?_
        obtain ⟨h4, w5, H⟩ := H
        refine x_cvv (q119c0 25 rfl) rfl oc56 rfl (Nat.le_of_ble_eq_true rfl) ⟨h4, w5, ?_⟩
        obtain ⟨⟨s6, s7, s8, s9, s10, s11, s12, s13, s14⟩, H⟩ := H
        refine x_aload_n (q119c0 26 rfl) rfl ?_
        refine x_getr (q119c0 27 rfl) fd56_0 ?_
        refine x_iconst (q119c0 28 rfl) ?_
        refine x_iaload (q119c0 29 rfl) (al57 _) rfl (ag_l rfl rfl (rfl)) (by decide) ?_
        refine x_istore_n (q119c0 30 rfl) ⟨Nat.le_of_ble_eq_true rfl, trivial⟩ ?_
        refine x_aload_n (q119c0 31 rfl) rfl ?_
        refine x_getr (q119c0 32 rfl) fd56_0 ?_
        refine x_iconst (q119c0 33 rfl) ?_
        refine x_dup2 (q119c0 34 rfl) ⟨trivial, trivial⟩ ?_
        refine x_iaload (q119c0 35 rfl) (al57 _) rfl (ag_l rfl rfl (rfl)) (by decide) ?_
        refine x_iconst (q119c0 36 rfl) ?_
        refine x_iadd (q119c0 37 rfl) s6 ?_
        refine x_iastore (q119c0 38 rfl) (al57 _) rfl (Nat.le_of_ble_eq_true rfl) (by decide) (j := 0) rfl ?_
        refine x_aload_n (q119c0 39 rfl) rfl ?_
        refine x_getr (q119c0 40 rfl) fd56_0 ?_
        refine x_bipush (q119c0 41 rfl) ?_
        refine x_iconst (q119c0 42 rfl) ?_
        refine x_iload_n (q119c0 43 rfl) rfl ?_
        refine x_imul (q119c0 44 rfl) s7 ?_
        refine x_iadd (q119c0 45 rfl) s8 ?_
        refine x_iload_n (q119c0 46 rfl) rfl ?_
        refine x_bipush (q119c0 47 rfl) ?_
        refine x_idiv (q119c0 48 rfl) ⟨by decide, s9⟩ ?_
        refine x_iastore (q119c0 49 rfl) (al57 _) rfl (Nat.le_of_ble_eq_true rfl) s10 (j := 10 + 3 * h4 57 0) rfl ?_
        refine x_aload_n (q119c0 50 rfl) rfl ?_
        refine x_getr (q119c0 51 rfl) fd56_0 ?_
        refine x_bipush (q119c0 52 rfl) ?_
        refine x_iconst (q119c0 53 rfl) ?_
        refine x_iload_n (q119c0 54 rfl) rfl ?_
        refine x_imul (q119c0 55 rfl) s7 ?_
        refine x_iadd (q119c0 56 rfl) s8 ?_
        refine x_iconst (q119c0 57 rfl) ?_
        refine x_iadd (q119c0 58 rfl) s11 ?_
        refine x_iload_n (q119c0 59 rfl) rfl ?_
        refine x_bipush (q119c1 0 rfl) ?_
        refine x_irem (q119c1 1 rfl) ⟨by decide, s9⟩ ?_
        refine x_iastore (q119c1 2 rfl) (al57 _) rfl (Nat.le_of_ble_eq_true rfl) s12 (j := 11 + 3 * h4 57 0) (by omega) ?_
        refine x_aload_n (q119c1 3 rfl) rfl ?_
        refine x_getr (q119c1 4 rfl) fd56_0 ?_
        refine x_bipush (q119c1 5 rfl) ?_
        refine x_iconst (q119c1 6 rfl) ?_
        refine x_iload_n (q119c1 7 rfl) rfl ?_
        refine x_imul (q119c1 8 rfl) s7 ?_
        refine x_iadd (q119c1 9 rfl) s8 ?_
        refine x_iconst (q119c1 10 rfl) ?_
        refine x_iadd (q119c1 11 rfl) s13 ?_
        refine x_iload_n (q119c1 12 rfl) rfl ?_
        refine x_iastore (q119c1 13 rfl) (al57 _) rfl (Nat.le_of_ble_eq_true rfl) s14 (j := 12 + 3 * h4 57 0) (by omega) ?_
        refine x_iconst (q119c1 14 rfl) ?_
        refine x_istore (q119c1 15 rfl) ⟨Nat.le_of_ble_eq_true rfl, trivial⟩ ?_
        exact am_x_weak (ls' := [some (.inr (.inr 56)), some (.inl x1), some (.inl x2), some (.inl (h4 57 0)), some (.inl 0)]) (lle_c (lle_d trivial (lle_d trivial (lle_c (lle_c (lle_nil)))))) H
      · replace H := H.2 c3
        refine x_aload_n (q119c0 20 rfl) rfl ?_
        refine x_ldc (q119c0 21 rfl) ?_
        refine x_cvi (q119c0 22 rfl) rfl oc56 rfl (Nat.le_of_ble_eq_true rfl) (am_lifti (Nat.le_of_ble_eq_true rfl) (e_Mo_finds (r1 := h 56 3) (rfl) ?_))
        obtain ⟨s15, H⟩ := H
        refine ⟨s15, ?_⟩
        exact x_ireti (q119c0 23 rfl) zb119 H
    · replace H := H.2 c2
      refine x_if_ne_f (q119c0 9 rfl) (by decide) ?_
      refine x_aload_n (q119c0 10 rfl) rfl ?_
      refine x_ldc (q119c0 11 rfl) ?_
      refine x_cvi (q119c0 12 rfl) rfl oc56 rfl (Nat.le_of_ble_eq_true rfl) (am_lifti (Nat.le_of_ble_eq_true rfl) (e_Mo_finds (r1 := h 56 3) (rfl) ?_))
      obtain ⟨s16, H⟩ := H
      refine ⟨s16, ?_⟩
      exact x_ireti (q119c0 13 rfl) zb119 H
  · replace H := H.2 c1
    refine x_if_eq_t (q119c0 4 rfl) (by decide) ?_
    refine x_aload_n (q119c0 10 rfl) rfl ?_
    refine x_ldc (q119c0 11 rfl) ?_
    refine x_cvi (q119c0 12 rfl) rfl oc56 rfl (Nat.le_of_ble_eq_true rfl) (am_lifti (Nat.le_of_ble_eq_true rfl) (e_Mo_finds (r1 := h 56 3) (rfl) ?_))
    obtain ⟨s17, H⟩ := H
    refine ⟨s17, ?_⟩
    exact x_ireti (q119c0 13 rfl) zb119 H
theorem g_Mo_village_117 {h : am_H} {x3 : Int} {x4 : Int} {P : Int → am_H → Prop} (H : (12 ≤ x4 → P x3 h) ∧ (x4 < 12 → ((am_ok (12 * x3) ∧ am_ok (46 + 12 * x3) ∧ am_ok (46 + 12 * x3 + x4) ∧ (0 ≤ 46 + 12 * x3 + x4 ∧ 46 + 12 * x3 + x4 < 820) ∧ am_ok (12 * x4) ∧ am_ok (46 + 12 * x4) ∧ am_ok (46 + 12 * x4 + x3) ∧ (0 ≤ 46 + 12 * x4 + x3 ∧ 46 + 12 * x4 + x3 < 820) ∧ am_ok (x4 + 1)) ∧ am_x (am_cd 1) 119 (am_qi P) 0 117 [some (.inr (.inr 56)), none, none, some (.inl x3), some (.inl (x4 + 1))] [] (am_up (am_up h 57 (46 + 12 * x3 + x4) 0) 57 (46 + 12 * x4 + x3) 0)))) : am_x (am_cd 1) 119 (am_qi P) 0 117 [some (.inr (.inr 56)), none, none, some (.inl x3), some (.inl x4)] [] h := by
  refine x_iload (q119c1 16 rfl) rfl ?_
  refine x_bipush (q119c1 17 rfl) ?_
  refine x_icmp_ge (q119c1 18 rfl) (fun c1 => ?_) (fun c1 => ?_)
  · replace H := H.1 c1
    refine x_iload_n (q119c1 43 rfl) rfl ?_
    exact x_ireti (q119c1 44 rfl) zb119 H
  · replace H := H.2 c1
    obtain ⟨⟨s2, s3, s4, s5, s6, s7, s8, s9, s10⟩, H⟩ := H
    refine x_aload_n (q119c1 19 rfl) rfl ?_
    refine x_getr (q119c1 20 rfl) fd56_0 ?_
    refine x_bipush (q119c1 21 rfl) ?_
    refine x_bipush (q119c1 22 rfl) ?_
    refine x_iload_n (q119c1 23 rfl) rfl ?_
    refine x_imul (q119c1 24 rfl) s2 ?_
    refine x_iadd (q119c1 25 rfl) s3 ?_
    refine x_iload (q119c1 26 rfl) rfl ?_
    refine x_iadd (q119c1 27 rfl) s4 ?_
    refine x_iconst (q119c1 28 rfl) ?_
    refine x_iastore (q119c1 29 rfl) (al57 _) rfl (Nat.le_of_ble_eq_true rfl) s5 (j := 46 + 12 * x3 + x4) rfl ?_
    refine x_aload_n (q119c1 30 rfl) rfl ?_
    refine x_getr (q119c1 31 rfl) fd56_0 ?_
    refine x_bipush (q119c1 32 rfl) ?_
    refine x_bipush (q119c1 33 rfl) ?_
    refine x_iload (q119c1 34 rfl) rfl ?_
    refine x_imul (q119c1 35 rfl) s6 ?_
    refine x_iadd (q119c1 36 rfl) s7 ?_
    refine x_iload_n (q119c1 37 rfl) rfl ?_
    refine x_iadd (q119c1 38 rfl) s8 ?_
    refine x_iconst (q119c1 39 rfl) ?_
    refine x_iastore (q119c1 40 rfl) (al57 _) rfl (Nat.le_of_ble_eq_true rfl) s9 (j := 46 + 12 * x4 + x3) rfl ?_
    refine x_iinc (q119c1 41 rfl) rfl ⟨Nat.le_of_ble_eq_true rfl, trivial⟩ s10 ?_
    refine x_goto (q119c1 42 rfl) ?_
    exact H
theorem e_Mo_findWalks {h : am_H} {x1 : Int} {P : am_H → Prop} (H : am_x (am_cd 1) 120 (am_qv P) 0 2 [some (.inr (.inr 56)), some (.inl x1), some (.inl 0), none, none, none] [] h) : ∃ h1, am_cd 2 120 [.inr (.inr 56), .inl x1] h none h1 ∧ P h1 := by
  refine am_outv (d := 1) (ls := [some (.inr (.inr 56)), some (.inl x1), none, none, none, none]) rfl ab120 ml120 (Nat.le_of_ble_eq_true rfl) np120 rfl ?_
  refine x_iconst (q120c0 0 rfl) ?_
  refine x_istore_n (q120c0 1 rfl) ⟨Nat.le_of_ble_eq_true rfl, trivial⟩ ?_
  exact H
theorem g_Mo_findWalks_2 {h : am_H} {x1 : Int} {x2 : Int} {P : am_H → Prop} (H : (12 ≤ x2 → am_x (am_cd 1) 120 (am_qv P) 0 32 [some (.inr (.inr 56)), none, some (.inl 1), none, none, none] [] h) ∧ (x2 < 12 → ((x2 ≠ x1 → (((0 ≤ x2 ∧ x2 < 12) ∧ am_ok (x2 + 1)) ∧ am_x (am_cd 1) 120 (am_qv P) 0 2 [some (.inr (.inr 56)), some (.inl x1), some (.inl (x2 + 1)), none, none, none] [] (am_up h 59 x2 (-1)))) ∧ (x2 = x1 → (((0 ≤ x2 ∧ x2 < 12) ∧ am_ok (x2 + 1)) ∧ am_x (am_cd 1) 120 (am_qv P) 0 2 [some (.inr (.inr 56)), some (.inl x1), some (.inl (x2 + 1)), none, none, none] [] (am_up h 59 x2 0)))))) : am_x (am_cd 1) 120 (am_qv P) 0 2 [some (.inr (.inr 56)), some (.inl x1), some (.inl x2), none, none, none] [] h := by
  refine x_iload_n (q120c0 2 rfl) rfl ?_
  refine x_bipush (q120c0 3 rfl) ?_
  refine x_icmp_ge (q120c0 4 rfl) (fun c1 => ?_) (fun c1 => ?_)
  · replace H := H.1 c1
    refine x_iconst (q120c0 17 rfl) ?_
    refine x_istore_n (q120c0 18 rfl) ⟨Nat.le_of_ble_eq_true rfl, trivial⟩ ?_
    exact am_x_weak (ls' := [some (.inr (.inr 56)), some (.inl x1), some (.inl 1), none, none, none]) (lle_c (lle_d trivial (lle_c (lle_c (lle_c (lle_c (lle_nil))))))) H
  · replace H := H.2 c1
    refine x_aload_n (q120c0 5 rfl) rfl ?_
    refine x_getr (q120c0 6 rfl) fd56_4 ?_
    refine x_iload_n (q120c0 7 rfl) rfl ?_
    refine x_iload_n (q120c0 8 rfl) rfl ?_
    refine x_iload_n (q120c0 9 rfl) rfl ?_
    refine x_icmp_ne (q120c0 10 rfl) (fun c2 => ?_) (fun c2 => ?_)
    · replace H := H.1 c2
      obtain ⟨⟨s3, s4⟩, H⟩ := H
      refine x_iconst (q120c0 13 rfl) ?_
      refine x_iastore (q120c0 14 rfl) (al59 _) rfl (Nat.le_of_ble_eq_true rfl) s3 (j := x2) rfl ?_
      refine x_iinc (q120c0 15 rfl) rfl ⟨Nat.le_of_ble_eq_true rfl, trivial⟩ s4 ?_
      refine x_goto (q120c0 16 rfl) ?_
      exact H
    · replace H := H.2 c2
      obtain ⟨⟨s5, s6⟩, H⟩ := H
      refine x_iconst (q120c0 11 rfl) ?_
      refine x_goto (q120c0 12 rfl) ?_
      refine x_iastore (q120c0 14 rfl) (al59 _) rfl (Nat.le_of_ble_eq_true rfl) s5 (j := x2) rfl ?_
      refine x_iinc (q120c0 15 rfl) rfl ⟨Nat.le_of_ble_eq_true rfl, trivial⟩ s6 ?_
      refine x_goto (q120c0 16 rfl) ?_
      exact H
theorem g_Mo_findWalks_32 {h : am_H} {x2 : Int} {P : am_H → Prop} (H : (x2 = 0 → P h) ∧ (x2 ≠ 0 → am_x (am_cd 1) 120 (am_qv P) 0 40 [some (.inr (.inr 56)), none, some (.inl 0), some (.inl 0), none, none] [] h)) : am_x (am_cd 1) 120 (am_qv P) 0 32 [some (.inr (.inr 56)), none, some (.inl x2), none, none, none] [] h := by
  refine x_iload_n (q120c0 19 rfl) rfl ?_
  refine x_if_eq (q120c0 20 rfl) (fun c1 => ?_) (fun c1 => ?_)
  · replace H := H.1 c1
    exact x_ret (q120c1 23 rfl) H
  · replace H := H.2 c1
    refine x_iconst (q120c0 21 rfl) ?_
    refine x_istore_n (q120c0 22 rfl) ⟨Nat.le_of_ble_eq_true rfl, trivial⟩ ?_
    refine x_iconst (q120c0 23 rfl) ?_
    refine x_istore_n (q120c0 24 rfl) ⟨Nat.le_of_ble_eq_true rfl, trivial⟩ ?_
    exact H
theorem g_Mo_findWalks_40 {h : am_H} {x2 : Int} {x3 : Int} {P : am_H → Prop} (H : (h 57 0 ≤ x3 → am_x (am_cd 1) 120 (am_qv P) 0 32 [some (.inr (.inr 56)), none, some (.inl x2), none, none, none] [] h) ∧ (x3 < h 57 0 → am_x (am_cd 1) 120 (am_qv P) 0 53 [some (.inr (.inr 56)), none, some (.inl x2), some (.inl x3), some (.inl 0), none] [] h)) : am_x (am_cd 1) 120 (am_qv P) 0 40 [some (.inr (.inr 56)), none, some (.inl x2), some (.inl x3), none, none] [] h := by
  refine x_iload_n (q120c0 25 rfl) rfl ?_
  refine x_aload_n (q120c0 26 rfl) rfl ?_
  refine x_getr (q120c0 27 rfl) fd56_0 ?_
  refine x_iconst (q120c0 28 rfl) ?_
  refine x_iaload (q120c0 29 rfl) (al57 _) rfl (ag_l rfl rfl (rfl)) (by decide) ?_
  refine x_icmp_ge (q120c0 30 rfl) (fun c1 => ?_) (fun c1 => ?_)
  · replace H := H.1 c1
    refine x_goto (q120c1 22 rfl) ?_
    exact am_x_weak (ls' := [some (.inr (.inr 56)), none, some (.inl x2), some (.inl x3), none, none]) (lle_c (lle_c (lle_c (lle_d trivial (lle_c (lle_c (lle_nil))))))) H
  · replace H := H.2 c1
    refine x_iconst (q120c0 31 rfl) ?_
    refine x_istore (q120c0 32 rfl) ⟨Nat.le_of_ble_eq_true rfl, trivial⟩ ?_
    exact H
theorem g_Mo_findWalks_53 {h : am_H} {x2 : Int} {x3 : Int} {x4 : Int} {P : am_H → Prop} (H : (h 57 0 ≤ x4 → ((am_ok (x3 + 1)) ∧ am_x (am_cd 1) 120 (am_qv P) 0 40 [some (.inr (.inr 56)), none, some (.inl x2), some (.inl (x3 + 1)), none, none] [] h)) ∧ (x4 < h 57 0 → ((0 ≤ x3 ∧ x3 < 12) ∧ ((h 59 x3 < 0 → ((am_ok (x3 + 1)) ∧ am_x (am_cd 1) 120 (am_qv P) 0 40 [some (.inr (.inr 56)), none, some (.inl x2), some (.inl (x3 + 1)), none, none] [] h)) ∧ (0 ≤ h 59 x3 → ((am_ok (12 * x3) ∧ am_ok (46 + 12 * x3) ∧ am_ok (46 + 12 * x3 + x4) ∧ (0 ≤ 46 + 12 * x3 + x4 ∧ 46 + 12 * x3 + x4 < 820)) ∧ ((am_ok (h 59 x3 + h 57 (46 + 12 * x3 + x4))) ∧ ((h 57 (46 + 12 * x3 + x4) = 0 → ((am_ok (x4 + 1)) ∧ am_x (am_cd 1) 120 (am_qv P) 0 53 [some (.inr (.inr 56)), none, some (.inl x2), some (.inl x3), some (.inl (x4 + 1)), none] [] h)) ∧ (h 57 (46 + 12 * x3 + x4) ≠ 0 → ((0 ≤ x4 ∧ x4 < 12) ∧ ((h 59 x4 < 0 → ((am_ok (x4 + 1)) ∧ am_x (am_cd 1) 120 (am_qv P) 0 53 [some (.inr (.inr 56)), none, some (.inl 1), some (.inl x3), some (.inl (x4 + 1)), none] [] (am_up h 59 x4 (h 59 x3 + h 57 (46 + 12 * x3 + x4))))) ∧ (0 ≤ h 59 x4 → ((h 59 x3 + h 57 (46 + 12 * x3 + x4) < h 59 x4 → ((am_ok (x4 + 1)) ∧ am_x (am_cd 1) 120 (am_qv P) 0 53 [some (.inr (.inr 56)), none, some (.inl 1), some (.inl x3), some (.inl (x4 + 1)), none] [] (am_up h 59 x4 (h 59 x3 + h 57 (46 + 12 * x3 + x4))))) ∧ (h 59 x4 ≤ h 59 x3 + h 57 (46 + 12 * x3 + x4) → ((am_ok (x4 + 1)) ∧ am_x (am_cd 1) 120 (am_qv P) 0 53 [some (.inr (.inr 56)), none, some (.inl x2), some (.inl x3), some (.inl (x4 + 1)), none] [] h))))))))))))))) : am_x (am_cd 1) 120 (am_qv P) 0 53 [some (.inr (.inr 56)), none, some (.inl x2), some (.inl x3), some (.inl x4), none] [] h := by
  refine x_iload (q120c0 33 rfl) rfl ?_
  refine x_aload_n (q120c0 34 rfl) rfl ?_
  refine x_getr (q120c0 35 rfl) fd56_0 ?_
  refine x_iconst (q120c0 36 rfl) ?_
  refine x_iaload (q120c0 37 rfl) (al57 _) rfl (ag_l rfl rfl (rfl)) (by decide) ?_
  refine x_icmp_ge (q120c0 38 rfl) (fun c1 => ?_) (fun c1 => ?_)
  · replace H := H.1 c1
    obtain ⟨s2, H⟩ := H
    refine x_iinc (q120c1 20 rfl) rfl ⟨Nat.le_of_ble_eq_true rfl, trivial⟩ s2 ?_
    refine x_goto (q120c1 21 rfl) ?_
    exact am_x_weak (ls' := [some (.inr (.inr 56)), none, some (.inl x2), some (.inl (x3 + 1)), some (.inl x4), none]) (lle_c (lle_c (lle_c (lle_c (lle_d trivial (lle_c (lle_nil))))))) H
  · replace H := H.2 c1
    obtain ⟨s3, H⟩ := H
    refine x_aload_n (q120c0 39 rfl) rfl ?_
    refine x_getr (q120c0 40 rfl) fd56_4 ?_
    refine x_iload_n (q120c0 41 rfl) rfl ?_
    refine x_iaload (q120c0 42 rfl) (al59 _) rfl (ag_l rfl rfl (rfl)) s3 ?_
    refine x_if_lt (q120c0 43 rfl) (fun c4 => ?_) (fun c4 => ?_)
    · replace H := H.1 c4
      obtain ⟨s5, H⟩ := H
      refine x_iinc (q120c1 20 rfl) rfl ⟨Nat.le_of_ble_eq_true rfl, trivial⟩ s5 ?_
      refine x_goto (q120c1 21 rfl) ?_
      exact am_x_weak (ls' := [some (.inr (.inr 56)), none, some (.inl x2), some (.inl (x3 + 1)), some (.inl x4), none]) (lle_c (lle_c (lle_c (lle_c (lle_d trivial (lle_c (lle_nil))))))) H
    · replace H := H.2 c4
      refine x_aload_n (q120c0 44 rfl) rfl ?_
      refine x_getr (q120c0 45 rfl) fd56_4 ?_
      refine x_iload_n (q120c0 46 rfl) rfl ?_
      refine x_iaload (q120c0 47 rfl) (al59 _) rfl (ag_l rfl rfl (rfl)) s3 ?_
      refine x_aload_n (q120c0 48 rfl) rfl ?_
      refine x_iload_n (q120c0 49 rfl) rfl ?_
      refine x_iload (q120c0 50 rfl) rfl ?_
      refine x_cvi (q120c0 51 rfl) rfl oc56 rfl (Nat.le_of_ble_eq_true rfl) (am_lifti (Nat.le_of_ble_eq_true rfl) (e_Mo_roadOf (r1 := h 57 (46 + 12 * x3 + x4)) (rfl) ?_))
      obtain ⟨⟨s6, s7, s8, s9⟩, H⟩ := H
      refine ⟨⟨s6, s7, s8, s9⟩, ?_⟩
      obtain ⟨s10, H⟩ := H
      refine x_iadd (q120c0 52 rfl) s10 ?_
      refine x_istore (q120c0 53 rfl) ⟨Nat.le_of_ble_eq_true rfl, trivial⟩ ?_
      refine x_aload_n (q120c0 54 rfl) rfl ?_
      refine x_iload_n (q120c0 55 rfl) rfl ?_
      refine x_iload (q120c0 56 rfl) rfl ?_
      refine x_cvi (q120c0 57 rfl) rfl oc56 rfl (Nat.le_of_ble_eq_true rfl) (am_lifti (Nat.le_of_ble_eq_true rfl) (e_Mo_roadOf (r1 := h 57 (46 + 12 * x3 + x4)) (rfl) ?_))
      refine ⟨⟨s6, s7, s8, s9⟩, ?_⟩
      refine x_if_eq (q120c0 58 rfl) (fun c11 => ?_) (fun c11 => ?_)
      · replace H := H.1 c11
        obtain ⟨s12, H⟩ := H
        refine x_iinc (q120c1 18 rfl) rfl ⟨Nat.le_of_ble_eq_true rfl, trivial⟩ s12 ?_
        refine x_goto (q120c1 19 rfl) ?_
        exact am_x_weak (ls' := [some (.inr (.inr 56)), none, some (.inl x2), some (.inl x3), some (.inl (x4 + 1)), some (.inl (h 59 x3 + h 57 (46 + 12 * x3 + x4)))]) (lle_c (lle_c (lle_c (lle_c (lle_c (lle_d trivial (lle_nil))))))) H
      · replace H := H.2 c11
        obtain ⟨s13, H⟩ := H
        refine x_aload_n (q120c0 59 rfl) rfl ?_
        refine x_getr (q120c1 0 rfl) fd56_4 ?_
        refine x_iload (q120c1 1 rfl) rfl ?_
        refine x_iaload (q120c1 2 rfl) (al59 _) rfl (ag_l rfl rfl (rfl)) s13 ?_
        refine x_if_lt (q120c1 3 rfl) (fun c14 => ?_) (fun c14 => ?_)
        · replace H := H.1 c14
          obtain ⟨s15, H⟩ := H
          refine x_aload_n (q120c1 11 rfl) rfl ?_
          refine x_getr (q120c1 12 rfl) fd56_4 ?_
          refine x_iload (q120c1 13 rfl) rfl ?_
          refine x_iload (q120c1 14 rfl) rfl ?_
          refine x_iastore (q120c1 15 rfl) (al59 _) rfl (Nat.le_of_ble_eq_true rfl) s13 (j := x4) rfl ?_
          refine x_iconst (q120c1 16 rfl) ?_
          refine x_istore_n (q120c1 17 rfl) ⟨Nat.le_of_ble_eq_true rfl, trivial⟩ ?_
          refine x_iinc (q120c1 18 rfl) rfl ⟨Nat.le_of_ble_eq_true rfl, trivial⟩ s15 ?_
          refine x_goto (q120c1 19 rfl) ?_
          exact am_x_weak (ls' := [some (.inr (.inr 56)), none, some (.inl 1), some (.inl x3), some (.inl (x4 + 1)), some (.inl (h 59 x3 + h 57 (46 + 12 * x3 + x4)))]) (lle_c (lle_c (lle_c (lle_c (lle_c (lle_d trivial (lle_nil))))))) H
        · replace H := H.2 c14
          refine x_aload_n (q120c1 4 rfl) rfl ?_
          refine x_getr (q120c1 5 rfl) fd56_4 ?_
          refine x_iload (q120c1 6 rfl) rfl ?_
          refine x_iaload (q120c1 7 rfl) (al59 _) rfl (ag_l rfl rfl (rfl)) s13 ?_
          refine x_iload (q120c1 8 rfl) rfl ?_
          refine x_icmp_gt (q120c1 9 rfl) (fun c16 => ?_) (fun c16 => ?_)
          · replace H := H.1 c16
            obtain ⟨s17, H⟩ := H
            refine x_aload_n (q120c1 11 rfl) rfl ?_
            refine x_getr (q120c1 12 rfl) fd56_4 ?_
            refine x_iload (q120c1 13 rfl) rfl ?_
            refine x_iload (q120c1 14 rfl) rfl ?_
            refine x_iastore (q120c1 15 rfl) (al59 _) rfl (Nat.le_of_ble_eq_true rfl) s13 (j := x4) rfl ?_
            refine x_iconst (q120c1 16 rfl) ?_
            refine x_istore_n (q120c1 17 rfl) ⟨Nat.le_of_ble_eq_true rfl, trivial⟩ ?_
            refine x_iinc (q120c1 18 rfl) rfl ⟨Nat.le_of_ble_eq_true rfl, trivial⟩ s17 ?_
            refine x_goto (q120c1 19 rfl) ?_
            exact am_x_weak (ls' := [some (.inr (.inr 56)), none, some (.inl 1), some (.inl x3), some (.inl (x4 + 1)), some (.inl (h 59 x3 + h 57 (46 + 12 * x3 + x4)))]) (lle_c (lle_c (lle_c (lle_c (lle_c (lle_d trivial (lle_nil))))))) H
          · replace H := H.2 c16
            obtain ⟨s18, H⟩ := H
            refine x_goto (q120c1 10 rfl) ?_
            refine x_iinc (q120c1 18 rfl) rfl ⟨Nat.le_of_ble_eq_true rfl, trivial⟩ s18 ?_
            refine x_goto (q120c1 19 rfl) ?_
            exact am_x_weak (ls' := [some (.inr (.inr 56)), none, some (.inl x2), some (.inl x3), some (.inl (x4 + 1)), some (.inl (h 59 x3 + h 57 (46 + 12 * x3 + x4)))]) (lle_c (lle_c (lle_c (lle_c (lle_c (lle_d trivial (lle_nil))))))) H
theorem e_Mo_day {h : am_H} {x1 : Int} {P : Int → am_H → Prop} (H : ((h 57 4 ≤ x1 ∧ x1 ≤ 999) → (∃ h2, am_cd 1 77 [.inr (.inr 56)] h none h2 ∧ P (h2 57 4) (am_up h2 57 4 x1))) ∧ ((¬(h 57 4 ≤ x1 ∧ x1 ≤ 999)) → ((am_ok (h 56 3 + 1)) ∧ P (-100001) (am_up h 56 3 (h 56 3 + 1))))) : ∃ a h1, am_cd 2 121 [.inr (.inr 56), .inl x1] h (some (.inl a)) h1 ∧ P a h1 := by
  refine am_outi (d := 1) (ls := [some (.inr (.inr 56)), some (.inl x1), none]) rfl ab121 ml121 (Nat.le_of_ble_eq_true rfl) np121 rfl ?_
  refine x_iload_n (q121c0 0 rfl) rfl ?_
  refine x_aload_n (q121c0 1 rfl) rfl ?_
  refine x_getr (q121c0 2 rfl) fd56_0 ?_
  refine x_iconst (q121c0 3 rfl) ?_
  refine x_iaload (q121c0 4 rfl) (al57 _) rfl (ag_l rfl rfl (rfl)) (by decide) ?_
  refine x_sipush (q121c0 5 rfl) ?_
  refine x_csi (q121c0 6 rfl) rfl rfl rfl (Nat.le_of_ble_eq_true rfl) (am_lifti (Nat.le_of_ble_eq_true rfl) (e_Mo_in   ?_))
  refine ⟨fun c1 => ?_, fun c1 => ?_⟩
  · replace H := H.1 c1
    refine x_if_ne_t (q121c0 7 rfl) (by decide) ?_
    refine x_aload_n (q121c0 12 rfl) rfl ?_
    obtain ⟨h2, w3, H⟩ := H
    refine x_cvv (q121c0 13 rfl) rfl oc56 rfl (Nat.le_of_ble_eq_true rfl) ⟨h2, w3, ?_⟩
    refine x_aload_n (q121c0 14 rfl) rfl ?_
    refine x_getr (q121c0 15 rfl) fd56_0 ?_
    refine x_iconst (q121c0 16 rfl) ?_
    refine x_iaload (q121c0 17 rfl) (al57 _) rfl (ag_l rfl rfl (rfl)) (by decide) ?_
    refine x_istore_n (q121c0 18 rfl) ⟨Nat.le_of_ble_eq_true rfl, trivial⟩ ?_
    refine x_aload_n (q121c0 19 rfl) rfl ?_
    refine x_getr (q121c0 20 rfl) fd56_0 ?_
    refine x_iconst (q121c0 21 rfl) ?_
    refine x_iload_n (q121c0 22 rfl) rfl ?_
    refine x_iastore (q121c0 23 rfl) (al57 _) rfl (Nat.le_of_ble_eq_true rfl) (by decide) (j := 4) rfl ?_
    refine x_iload_n (q121c0 24 rfl) rfl ?_
    exact x_ireti (q121c0 25 rfl) zb121 H
  · replace H := H.2 c1
    refine x_if_ne_f (q121c0 7 rfl) (by decide) ?_
    refine x_aload_n (q121c0 8 rfl) rfl ?_
    refine x_ldc (q121c0 9 rfl) ?_
    refine x_cvi (q121c0 10 rfl) rfl oc56 rfl (Nat.le_of_ble_eq_true rfl) (am_lifti (Nat.le_of_ble_eq_true rfl) (e_Mo_finds (r1 := h 56 3) (rfl) ?_))
    obtain ⟨s4, H⟩ := H
    refine ⟨s4, ?_⟩
    exact x_ireti (q121c0 11 rfl) zb121 H
theorem e_Mo_as {h : am_H} {x1 : Int} {x2 : Int} {P : Int → am_H → Prop} (H : (am_ok (h 57 1 - 1)) ∧ (((0 ≤ x1 ∧ x1 ≤ h 57 1 - 1) → (((0 ≤ x2 ∧ x2 ≤ 3) → ((am_ok (3 * x1) ∧ am_ok (190 + 3 * x1) ∧ am_ok (190 + 3 * x1 + 1) ∧ (0 ≤ 190 + 3 * x1 + 1 ∧ 190 + 3 * x1 + 1 < 820)) ∧ ((x2 = 0 → (∃ a10 h9, am_cd 1 78 [.inr (.inr 56), .inl x1] h (some (.inl a10)) h9 ∧ P a10 h9)) ∧ (x2 ≠ 0 → ((x2 = h 57 (191 + 3 * x1) → (∃ a14 h13, am_cd 1 78 [.inr (.inr 56), .inl x1] h (some (.inl a14)) h13 ∧ P a14 h13)) ∧ (x2 ≠ h 57 (191 + 3 * x1) → ((x2 ≠ 1 → ((am_ok (h 56 3 + 1)) ∧ P (-100004) (am_up h 56 3 (h 56 3 + 1)))) ∧ (x2 = 1 → ((h 57 (191 + 3 * x1) ≠ 3 → ((am_ok (h 56 3 + 1)) ∧ P (-100004) (am_up h 56 3 (h 56 3 + 1)))) ∧ (h 57 (191 + 3 * x1) = 3 → (∃ a21 h20, am_cd 1 78 [.inr (.inr 56), .inl x1] h (some (.inl a21)) h20 ∧ P a21 h20))))))))))) ∧ ((¬(0 ≤ x2 ∧ x2 ≤ 3)) → ((am_ok (h 56 3 + 1)) ∧ P (-100001) (am_up h 56 3 (h 56 3 + 1)))))) ∧ ((¬(0 ≤ x1 ∧ x1 ≤ h 57 1 - 1)) → ((am_ok (h 56 3 + 1)) ∧ P (-100001) (am_up h 56 3 (h 56 3 + 1)))))) : ∃ a h1, am_cd 2 122 [.inr (.inr 56), .inl x1, .inl x2] h (some (.inl a)) h1 ∧ P a h1 := by
  refine am_outi (d := 1) (ls := [some (.inr (.inr 56)), some (.inl x1), some (.inl x2), none]) rfl ab122 ml122 (Nat.le_of_ble_eq_true rfl) np122 rfl ?_
  obtain ⟨s1, H⟩ := H
  refine x_iload_n (q122c0 0 rfl) rfl ?_
  refine x_iconst (q122c0 1 rfl) ?_
  refine x_aload_n (q122c0 2 rfl) rfl ?_
  refine x_getr (q122c0 3 rfl) fd56_0 ?_
  refine x_iconst (q122c0 4 rfl) ?_
  refine x_iaload (q122c0 5 rfl) (al57 _) rfl (ag_l rfl rfl (rfl)) (by decide) ?_
  refine x_iconst (q122c0 6 rfl) ?_
  refine x_isub (q122c0 7 rfl) s1 ?_
  refine x_csi (q122c0 8 rfl) rfl rfl rfl (Nat.le_of_ble_eq_true rfl) (am_lifti (Nat.le_of_ble_eq_true rfl) (e_Mo_in   ?_))
  refine ⟨fun c2 => ?_, fun c2 => ?_⟩
  · replace H := H.1 c2
    refine x_if_eq_f (q122c0 9 rfl) (by decide) ?_
    refine x_iload_n (q122c0 10 rfl) rfl ?_
    refine x_iconst (q122c0 11 rfl) ?_
    refine x_iconst (q122c0 12 rfl) ?_
    refine x_csi (q122c0 13 rfl) rfl rfl rfl (Nat.le_of_ble_eq_true rfl) (am_lifti (Nat.le_of_ble_eq_true rfl) (e_Mo_in   ?_))
    refine ⟨fun c3 => ?_, fun c3 => ?_⟩
    · replace H := H.1 c3
      obtain ⟨⟨s4, s5, s6, s7⟩, H⟩ := H
      refine x_if_ne_t (q122c0 14 rfl) (by decide) ?_
      refine x_aload_n (q122c0 19 rfl) rfl ?_
      refine x_getr (q122c0 20 rfl) fd56_0 ?_
      refine x_sipush (q122c0 21 rfl) ?_
      refine x_iconst (q122c0 22 rfl) ?_
      refine x_iload_n (q122c0 23 rfl) rfl ?_
      refine x_imul (q122c0 24 rfl) s4 ?_
      refine x_iadd (q122c0 25 rfl) s5 ?_
      refine x_iconst (q122c0 26 rfl) ?_
      refine x_iadd (q122c0 27 rfl) s6 ?_
      refine x_iaload (q122c0 28 rfl) (al57 _) rfl (ag_l (j1 := 191 + 3 * x1) rfl (by omega) (rfl)) s7 ?_
      refine x_istore_n (q122c0 29 rfl) ⟨Nat.le_of_ble_eq_true rfl, trivial⟩ ?_
      refine x_iload_n (q122c0 30 rfl) rfl ?_
      refine x_if_eq (q122c0 31 rfl) (fun c8 => ?_) (fun c8 => ?_)
      · replace H := H.1 c8
        refine x_aload_n (q122c0 41 rfl) rfl ?_
        refine x_iload_n (q122c0 42 rfl) rfl ?_
        obtain ⟨a10, h9, w11, H⟩ := H
        refine x_cvi (q122c0 43 rfl) rfl oc56 rfl (Nat.le_of_ble_eq_true rfl) ⟨a10, h9, w11, ?_⟩
        refine x_goto (q122c0 44 rfl) ?_
        exact x_ireti (q122c0 48 rfl) zb122 H
      · replace H := H.2 c8
        refine x_iload_n (q122c0 32 rfl) rfl ?_
        refine x_iload_n (q122c0 33 rfl) rfl ?_
        refine x_icmp_eq (q122c0 34 rfl) (fun c12 => ?_) (fun c12 => ?_)
        · replace H := H.1 c12
          refine x_aload_n (q122c0 41 rfl) rfl ?_
          refine x_iload_n (q122c0 42 rfl) rfl ?_
          obtain ⟨a14, h13, w15, H⟩ := H
          refine x_cvi (q122c0 43 rfl) rfl oc56 rfl (Nat.le_of_ble_eq_true rfl) ⟨a14, h13, w15, ?_⟩
          refine x_goto (q122c0 44 rfl) ?_
          exact x_ireti (q122c0 48 rfl) zb122 H
        · replace H := H.2 c12
          refine x_iload_n (q122c0 35 rfl) rfl ?_
          refine x_iconst (q122c0 36 rfl) ?_
          refine x_icmp_ne (q122c0 37 rfl) (fun c16 => ?_) (fun c16 => ?_)
          · replace H := H.1 c16
            refine x_aload_n (q122c0 45 rfl) rfl ?_
            refine x_ldc (q122c0 46 rfl) ?_
            refine x_cvi (q122c0 47 rfl) rfl oc56 rfl (Nat.le_of_ble_eq_true rfl) (am_lifti (Nat.le_of_ble_eq_true rfl) (e_Mo_finds (r1 := h 56 3) (rfl) ?_))
            obtain ⟨s17, H⟩ := H
            refine ⟨s17, ?_⟩
            exact x_ireti (q122c0 48 rfl) zb122 H
          · replace H := H.2 c16
            refine x_iload_n (q122c0 38 rfl) rfl ?_
            refine x_iconst (q122c0 39 rfl) ?_
            refine x_icmp_ne (q122c0 40 rfl) (fun c18 => ?_) (fun c18 => ?_)
            · replace H := H.1 c18
              refine x_aload_n (q122c0 45 rfl) rfl ?_
              refine x_ldc (q122c0 46 rfl) ?_
              refine x_cvi (q122c0 47 rfl) rfl oc56 rfl (Nat.le_of_ble_eq_true rfl) (am_lifti (Nat.le_of_ble_eq_true rfl) (e_Mo_finds (r1 := h 56 3) (rfl) ?_))
              obtain ⟨s19, H⟩ := H
              refine ⟨s19, ?_⟩
              exact x_ireti (q122c0 48 rfl) zb122 H
            · replace H := H.2 c18
              refine x_aload_n (q122c0 41 rfl) rfl ?_
              refine x_iload_n (q122c0 42 rfl) rfl ?_
              obtain ⟨a21, h20, w22, H⟩ := H
              refine x_cvi (q122c0 43 rfl) rfl oc56 rfl (Nat.le_of_ble_eq_true rfl) ⟨a21, h20, w22, ?_⟩
              refine x_goto (q122c0 44 rfl) ?_
              exact x_ireti (q122c0 48 rfl) zb122 H
    · replace H := H.2 c3
      refine x_if_ne_f (q122c0 14 rfl) (by decide) ?_
      refine x_aload_n (q122c0 15 rfl) rfl ?_
      refine x_ldc (q122c0 16 rfl) ?_
      refine x_cvi (q122c0 17 rfl) rfl oc56 rfl (Nat.le_of_ble_eq_true rfl) (am_lifti (Nat.le_of_ble_eq_true rfl) (e_Mo_finds (r1 := h 56 3) (rfl) ?_))
      obtain ⟨s23, H⟩ := H
      refine ⟨s23, ?_⟩
      exact x_ireti (q122c0 18 rfl) zb122 H
  · replace H := H.2 c2
    refine x_if_eq_t (q122c0 9 rfl) (by decide) ?_
    refine x_aload_n (q122c0 15 rfl) rfl ?_
    refine x_ldc (q122c0 16 rfl) ?_
    refine x_cvi (q122c0 17 rfl) rfl oc56 rfl (Nat.le_of_ble_eq_true rfl) (am_lifti (Nat.le_of_ble_eq_true rfl) (e_Mo_finds (r1 := h 56 3) (rfl) ?_))
    obtain ⟨s24, H⟩ := H
    refine ⟨s24, ?_⟩
    exact x_ireti (q122c0 18 rfl) zb122 H
theorem e_Mo_form {h : am_H} {x1 : Int} {y2 : Int64} {P : Int → am_H → Prop} (H : ((1 ≤ x1 ∧ x1 ≤ 8) → am_x (am_cd 1) 123 (am_qi P) 0 12 [some (.inr (.inr 56)), some (.inl x1), some (.inr (.inl y2)), none, some (.inl 1), some (.inl 0), none, none, none] [] h) ∧ ((¬(1 ≤ x1 ∧ x1 ≤ 8)) → am_x (am_cd 1) 123 (am_qi P) 0 12 [some (.inr (.inr 56)), some (.inl x1), some (.inr (.inl y2)), none, some (.inl 0), some (.inl 0), none, none, none] [] h)) : ∃ a h1, am_cd 2 123 [.inr (.inr 56), .inl x1, .inr (.inl y2)] h (some (.inl a)) h1 ∧ P a h1 := by
  refine am_outi (d := 1) (ls := [some (.inr (.inr 56)), some (.inl x1), some (.inr (.inl y2)), none, none, none, none, none, none]) rfl ab123 ml123 (Nat.le_of_ble_eq_true rfl) np123 rfl ?_
  refine x_iload_n (q123c0 0 rfl) rfl ?_
  refine x_iconst (q123c0 1 rfl) ?_
  refine x_bipush (q123c0 2 rfl) ?_
  refine x_csi (q123c0 3 rfl) rfl rfl rfl (Nat.le_of_ble_eq_true rfl) (am_lifti (Nat.le_of_ble_eq_true rfl) (e_Mo_in   ?_))
  refine ⟨fun c1 => ?_, fun c1 => ?_⟩
  · replace H := H.1 c1
    refine x_istore (q123c0 4 rfl) ⟨Nat.le_of_ble_eq_true rfl, trivial⟩ ?_
    refine x_iconst (q123c0 5 rfl) ?_
    refine x_istore (q123c0 6 rfl) ⟨Nat.le_of_ble_eq_true rfl, trivial⟩ ?_
    exact H
  · replace H := H.2 c1
    refine x_istore (q123c0 4 rfl) ⟨Nat.le_of_ble_eq_true rfl, trivial⟩ ?_
    refine x_iconst (q123c0 5 rfl) ?_
    refine x_istore (q123c0 6 rfl) ⟨Nat.le_of_ble_eq_true rfl, trivial⟩ ?_
    exact H
theorem g_Mo_form_12 {h : am_H} {x1 : Int} {y2 : Int64} {x4 : Int} {x5 : Int} {P : Int → am_H → Prop} (H : (x1 ≤ x5 → ((x4 ≠ 0 → ((am_ok (h 57 2 - 1)) ∧ am_x (am_cd 1) 123 (am_qi P) 0 79 [some (.inr (.inr 56)), some (.inl x1), some (.inr (.inl y2)), none, none, some (.inl (-1)), some (.inl (h 57 2 - 1)), none, none] [] h)) ∧ (x4 = 0 → ((am_ok (h 56 3 + 1)) ∧ P (-100001) (am_up h 56 3 (h 56 3 + 1)))))) ∧ (x5 < x1 → ((x4 = 0 → ((am_ok (h 56 3 + 1)) ∧ P (-100001) (am_up h 56 3 (h 56 3 + 1)))) ∧ (x4 ≠ 0 → ((am_ok (8 * x5)) ∧ ((0 ≤ am_lc ((am_lshr y2 (8 * x5)) &&& (Int64.ofInt 255)) (Int64.ofInt 26) → ((am_ok (x5 + 1)) ∧ am_x (am_cd 1) 123 (am_qi P) 0 12 [some (.inr (.inr 56)), some (.inl x1), some (.inr (.inl y2)), none, some (.inl 0), some (.inl (x5 + 1)), none, none, none] [] h)) ∧ (am_lc ((am_lshr y2 (8 * x5)) &&& (Int64.ofInt 255)) (Int64.ofInt 26) < 0 → ((am_ok (x5 + 1)) ∧ am_x (am_cd 1) 123 (am_qi P) 0 12 [some (.inr (.inr 56)), some (.inl x1), some (.inr (.inl y2)), none, some (.inl 1), some (.inl (x5 + 1)), none, none, none] [] h)))))))) : am_x (am_cd 1) 123 (am_qi P) 0 12 [some (.inr (.inr 56)), some (.inl x1), some (.inr (.inl y2)), none, some (.inl x4), some (.inl x5), none, none, none] [] h := by
  refine x_iload (q123c0 7 rfl) rfl ?_
  refine x_iload_n (q123c0 8 rfl) rfl ?_
  refine x_icmp_ge (q123c0 9 rfl) (fun c1 => ?_) (fun c1 => ?_)
  · replace H := H.1 c1
    refine x_iload (q123c0 28 rfl) rfl ?_
    refine x_if_ne (q123c0 29 rfl) (fun c2 => ?_) (fun c2 => ?_)
    · replace H := H.1 c2
      obtain ⟨s3, H⟩ := H
      refine x_iconst (q123c0 34 rfl) ?_
      refine x_istore (q123c0 35 rfl) ⟨Nat.le_of_ble_eq_true rfl, trivial⟩ ?_
      refine x_aload_n (q123c0 36 rfl) rfl ?_
      refine x_getr (q123c0 37 rfl) fd56_0 ?_
      refine x_iconst (q123c0 38 rfl) ?_
      refine x_iaload (q123c0 39 rfl) (al57 _) rfl (ag_l rfl rfl (rfl)) (by decide) ?_
      refine x_iconst (q123c0 40 rfl) ?_
      refine x_isub (q123c0 41 rfl) s3 ?_
      refine x_istore (q123c0 42 rfl) ⟨Nat.le_of_ble_eq_true rfl, trivial⟩ ?_
      exact am_x_weak (ls' := [some (.inr (.inr 56)), some (.inl x1), some (.inr (.inl y2)), none, some (.inl x4), some (.inl (-1)), some (.inl (h 57 2 - 1)), none, none]) (lle_c (lle_c (lle_c (lle_c (lle_d trivial (lle_c (lle_c (lle_c (lle_c (lle_nil)))))))))) H
    · replace H := H.2 c2
      refine x_aload_n (q123c0 30 rfl) rfl ?_
      refine x_ldc (q123c0 31 rfl) ?_
      refine x_cvi (q123c0 32 rfl) rfl oc56 rfl (Nat.le_of_ble_eq_true rfl) (am_lifti (Nat.le_of_ble_eq_true rfl) (e_Mo_finds (r1 := h 56 3) (rfl) ?_))
      obtain ⟨s4, H⟩ := H
      refine ⟨s4, ?_⟩
      exact x_ireti (q123c0 33 rfl) zb123 H
  · replace H := H.2 c1
    refine x_iload (q123c0 10 rfl) rfl ?_
    refine x_if_eq (q123c0 11 rfl) (fun c5 => ?_) (fun c5 => ?_)
    · replace H := H.1 c5
      refine x_iload (q123c0 28 rfl) rfl ?_
      refine x_if_ne_f (q123c0 29 rfl) c5 ?_
      refine x_aload_n (q123c0 30 rfl) rfl ?_
      refine x_ldc (q123c0 31 rfl) ?_
      refine x_cvi (q123c0 32 rfl) rfl oc56 rfl (Nat.le_of_ble_eq_true rfl) (am_lifti (Nat.le_of_ble_eq_true rfl) (e_Mo_finds (r1 := h 56 3) (rfl) ?_))
      obtain ⟨s6, H⟩ := H
      refine ⟨s6, ?_⟩
      exact x_ireti (q123c0 33 rfl) zb123 H
    · replace H := H.2 c5
      obtain ⟨s7, H⟩ := H
      refine x_lload_n (q123c0 12 rfl) rfl ?_
      refine x_bipush (q123c0 13 rfl) ?_
      refine x_iload (q123c0 14 rfl) rfl ?_
      refine x_imul (q123c0 15 rfl) s7 ?_
      refine x_lshr (q123c0 16 rfl) ?_
      refine x_ldc2 (q123c0 17 rfl) ?_
      refine x_land (q123c0 18 rfl) ?_
      refine x_ldc2 (q123c0 19 rfl) ?_
      refine x_lcmp (q123c0 20 rfl) ?_
      refine x_if_ge (q123c0 21 rfl) (fun c8 => ?_) (fun c8 => ?_)
      · replace H := H.1 c8
        obtain ⟨s9, H⟩ := H
        refine x_iconst (q123c0 24 rfl) ?_
        refine x_istore (q123c0 25 rfl) ⟨Nat.le_of_ble_eq_true rfl, trivial⟩ ?_
        refine x_iinc (q123c0 26 rfl) rfl ⟨Nat.le_of_ble_eq_true rfl, trivial⟩ s9 ?_
        refine x_goto (q123c0 27 rfl) ?_
        exact H
      · replace H := H.2 c8
        obtain ⟨s10, H⟩ := H
        refine x_iconst (q123c0 22 rfl) ?_
        refine x_goto (q123c0 23 rfl) ?_
        refine x_istore (q123c0 25 rfl) ⟨Nat.le_of_ble_eq_true rfl, trivial⟩ ?_
        refine x_iinc (q123c0 26 rfl) rfl ⟨Nat.le_of_ble_eq_true rfl, trivial⟩ s10 ?_
        refine x_goto (q123c0 27 rfl) ?_
        exact H
theorem g_Mo_form_79 {h : am_H} {x1 : Int} {y2 : Int64} {x5 : Int} {x6 : Int} {P : Int → am_H → Prop} (H : (x6 < 0 → ((0 ≤ x5 → (∃ h3, am_cd 1 77 [.inr (.inr 56)] h none h3 ∧ P x5 h3)) ∧ (x5 < 0 → ((h 57 2 ≠ 30 → (∃ h6, am_cd 1 77 [.inr (.inr 56)] h none h6 ∧ ((am_ok (h6 57 2 + 1) ∧ am_ok (9 * h6 57 2) ∧ am_ok (250 + 9 * h6 57 2) ∧ (0 ≤ 250 + 9 * h6 57 2 ∧ 250 + 9 * h6 57 2 < 820)) ∧ am_x (am_cd 1) 123 (am_qi P) 0 242 [some (.inr (.inr 56)), some (.inl x1), some (.inr (.inl y2)), none, none, none, some (.inl (h6 57 2)), some (.inl 0), none] [] (am_up (am_up h6 57 2 (h6 57 2 + 1)) 57 (250 + 9 * h6 57 2) x1)))) ∧ (h 57 2 = 30 → ((am_ok (h 56 3 + 1)) ∧ P (-100005) (am_up h 56 3 (h 56 3 + 1)))))))) ∧ (0 ≤ x6 → ((am_ok (9 * x6) ∧ am_ok (250 + 9 * x6) ∧ (0 ≤ 250 + 9 * x6 ∧ 250 + 9 * x6 < 820)) ∧ ((h 57 (250 + 9 * x6) ≠ x1 → am_x (am_cd 1) 123 (am_qi P) 0 104 [some (.inr (.inr 56)), some (.inl x1), some (.inr (.inl y2)), none, none, some (.inl x5), some (.inl x6), some (.inl 0), some (.inl 0)] [] h) ∧ (h 57 (250 + 9 * x6) = x1 → am_x (am_cd 1) 123 (am_qi P) 0 104 [some (.inr (.inr 56)), some (.inl x1), some (.inr (.inl y2)), none, none, some (.inl x5), some (.inl x6), some (.inl 1), some (.inl 0)] [] h))))) : am_x (am_cd 1) 123 (am_qi P) 0 79 [some (.inr (.inr 56)), some (.inl x1), some (.inr (.inl y2)), none, none, some (.inl x5), some (.inl x6), none, none] [] h := by
  refine x_iload (q123c0 43 rfl) rfl ?_
  refine x_if_lt (q123c0 44 rfl) (fun c1 => ?_) (fun c1 => ?_)
  · replace H := H.1 c1
    refine x_iload (q123c1 28 rfl) rfl ?_
    refine x_if_ge (q123c1 29 rfl) (fun c2 => ?_) (fun c2 => ?_)
    · replace H := H.1 c2
      refine x_aload_n (q123c1 40 rfl) rfl ?_
      obtain ⟨h3, w4, H⟩ := H
      refine x_cvv (q123c1 41 rfl) rfl oc56 rfl (Nat.le_of_ble_eq_true rfl) ⟨h3, w4, ?_⟩
      refine x_iload (q123c1 42 rfl) rfl ?_
      refine x_if_lt_f (q123c1 43 rfl) c2 ?_
      refine x_iload (q123c1 44 rfl) rfl ?_
      exact x_ireti (q123c1 45 rfl) zb123 H
    · replace H := H.2 c2
      refine x_aload_n (q123c1 30 rfl) rfl ?_
      refine x_getr (q123c1 31 rfl) fd56_0 ?_
      refine x_iconst (q123c1 32 rfl) ?_
      refine x_iaload (q123c1 33 rfl) (al57 _) rfl (ag_l rfl rfl (rfl)) (by decide) ?_
      refine x_bipush (q123c1 34 rfl) ?_
      refine x_icmp_ne (q123c1 35 rfl) (fun c5 => ?_) (fun c5 => ?_)
      · replace H := H.1 c5
        refine x_aload_n (q123c1 40 rfl) rfl ?_
        obtain ⟨h6, w7, H⟩ := H
        refine x_cvv (q123c1 41 rfl) rfl oc56 rfl (Nat.le_of_ble_eq_true rfl) ⟨h6, w7, ?_⟩
        obtain ⟨⟨s8, s9, s10, s11⟩, H⟩ := H
        refine x_iload (q123c1 42 rfl) rfl ?_
        refine x_if_lt_t (q123c1 43 rfl) c2 ?_
        refine x_aload_n (q123c1 46 rfl) rfl ?_
        refine x_getr (q123c1 47 rfl) fd56_0 ?_
        refine x_iconst (q123c1 48 rfl) ?_
        refine x_iaload (q123c1 49 rfl) (al57 _) rfl (ag_l rfl rfl (rfl)) (by decide) ?_
        refine x_istore (q123c1 50 rfl) ⟨Nat.le_of_ble_eq_true rfl, trivial⟩ ?_
        refine x_aload_n (q123c1 51 rfl) rfl ?_
        refine x_getr (q123c1 52 rfl) fd56_0 ?_
        refine x_iconst (q123c1 53 rfl) ?_
        refine x_dup2 (q123c1 54 rfl) ⟨trivial, trivial⟩ ?_
        refine x_iaload (q123c1 55 rfl) (al57 _) rfl (ag_l rfl rfl (rfl)) (by decide) ?_
        refine x_iconst (q123c1 56 rfl) ?_
        refine x_iadd (q123c1 57 rfl) s8 ?_
        refine x_iastore (q123c1 58 rfl) (al57 _) rfl (Nat.le_of_ble_eq_true rfl) (by decide) (j := 2) rfl ?_
        refine x_aload_n (q123c1 59 rfl) rfl ?_
        refine x_getr (q123c2 0 rfl) fd56_0 ?_
        refine x_sipush (q123c2 1 rfl) ?_
        refine x_bipush (q123c2 2 rfl) ?_
        refine x_iload (q123c2 3 rfl) rfl ?_
        refine x_imul (q123c2 4 rfl) s9 ?_
        refine x_iadd (q123c2 5 rfl) s10 ?_
        refine x_iload_n (q123c2 6 rfl) rfl ?_
        refine x_iastore (q123c2 7 rfl) (al57 _) rfl (Nat.le_of_ble_eq_true rfl) s11 (j := 250 + 9 * h6 57 2) rfl ?_
        refine x_iconst (q123c2 8 rfl) ?_
        refine x_istore (q123c2 9 rfl) ⟨Nat.le_of_ble_eq_true rfl, trivial⟩ ?_
        exact am_x_weak (ls' := [some (.inr (.inr 56)), some (.inl x1), some (.inr (.inl y2)), none, none, some (.inl x5), some (.inl (h6 57 2)), some (.inl 0), none]) (lle_c (lle_c (lle_c (lle_c (lle_c (lle_d trivial (lle_c (lle_c (lle_c (lle_nil)))))))))) H
      · replace H := H.2 c5
        refine x_aload_n (q123c1 36 rfl) rfl ?_
        refine x_ldc (q123c1 37 rfl) ?_
        refine x_cvi (q123c1 38 rfl) rfl oc56 rfl (Nat.le_of_ble_eq_true rfl) (am_lifti (Nat.le_of_ble_eq_true rfl) (e_Mo_finds (r1 := h 56 3) (rfl) ?_))
        obtain ⟨s12, H⟩ := H
        refine ⟨s12, ?_⟩
        exact x_ireti (q123c1 39 rfl) zb123 H
  · replace H := H.2 c1
    refine x_aload_n (q123c0 45 rfl) rfl ?_
    refine x_iload (q123c0 46 rfl) rfl ?_
    refine x_cvi (q123c0 47 rfl) rfl oc56 rfl (Nat.le_of_ble_eq_true rfl) (am_lifti (Nat.le_of_ble_eq_true rfl) (e_Mo_sizeOfForm (r1 := h 57 (250 + 9 * x6)) (rfl) ?_))
    obtain ⟨⟨s13, s14, s15⟩, H⟩ := H
    refine ⟨⟨s13, s14, s15⟩, ?_⟩
    refine x_iload_n (q123c0 48 rfl) rfl ?_
    refine x_icmp_ne (q123c0 49 rfl) (fun c16 => ?_) (fun c16 => ?_)
    · replace H := H.1 c16
      refine x_iconst (q123c0 52 rfl) ?_
      refine x_istore (q123c0 53 rfl) ⟨Nat.le_of_ble_eq_true rfl, trivial⟩ ?_
      refine x_iconst (q123c0 54 rfl) ?_
      refine x_istore (q123c0 55 rfl) ⟨Nat.le_of_ble_eq_true rfl, trivial⟩ ?_
      exact H
    · replace H := H.2 c16
      refine x_iconst (q123c0 50 rfl) ?_
      refine x_goto (q123c0 51 rfl) ?_
      refine x_istore (q123c0 53 rfl) ⟨Nat.le_of_ble_eq_true rfl, trivial⟩ ?_
      refine x_iconst (q123c0 54 rfl) ?_
      refine x_istore (q123c0 55 rfl) ⟨Nat.le_of_ble_eq_true rfl, trivial⟩ ?_
      exact H
theorem g_Mo_form_104 {h : am_H} {x1 : Int} {y2 : Int64} {x5 : Int} {x6 : Int} {x7 : Int} {x8 : Int} {P : Int → am_H → Prop} (H : (x1 ≤ x8 → ((x7 = 0 → ((am_ok (x6 + (-1))) ∧ am_x (am_cd 1) 123 (am_qi P) 0 79 [some (.inr (.inr 56)), some (.inl x1), some (.inr (.inl y2)), none, none, some (.inl x5), some (.inl (x6 + (-1))), none, none] [] h)) ∧ (x7 ≠ 0 → ((am_ok (x6 + (-1))) ∧ am_x (am_cd 1) 123 (am_qi P) 0 79 [some (.inr (.inr 56)), some (.inl x1), some (.inr (.inl y2)), none, none, some (.inl x6), some (.inl (x6 + (-1))), none, none] [] h)))) ∧ (x8 < x1 → ((x7 = 0 → ((am_ok (x6 + (-1))) ∧ am_x (am_cd 1) 123 (am_qi P) 0 79 [some (.inr (.inr 56)), some (.inl x1), some (.inr (.inl y2)), none, none, some (.inl x5), some (.inl (x6 + (-1))), none, none] [] h)) ∧ (x7 ≠ 0 → ((am_ok (9 * x6) ∧ am_ok (250 + 9 * x6) ∧ am_ok (250 + 9 * x6 + 1) ∧ am_ok (250 + 9 * x6 + 1 + x8) ∧ (0 ≤ 250 + 9 * x6 + 1 + x8 ∧ 250 + 9 * x6 + 1 + x8 < 820)) ∧ ((am_ok (8 * x8)) ∧ ((h 57 (251 + 9 * x6 + x8) ≠ ((am_lshr y2 (8 * x8)) &&& (Int64.ofInt 255)).toInt32.toInt → ((am_ok (x8 + 1)) ∧ am_x (am_cd 1) 123 (am_qi P) 0 104 [some (.inr (.inr 56)), some (.inl x1), some (.inr (.inl y2)), none, none, some (.inl x5), some (.inl x6), some (.inl 0), some (.inl (x8 + 1))] [] h)) ∧ (h 57 (251 + 9 * x6 + x8) = ((am_lshr y2 (8 * x8)) &&& (Int64.ofInt 255)).toInt32.toInt → ((am_ok (x8 + 1)) ∧ am_x (am_cd 1) 123 (am_qi P) 0 104 [some (.inr (.inr 56)), some (.inl x1), some (.inr (.inl y2)), none, none, some (.inl x5), some (.inl x6), some (.inl 1), some (.inl (x8 + 1))] [] h))))))))) : am_x (am_cd 1) 123 (am_qi P) 0 104 [some (.inr (.inr 56)), some (.inl x1), some (.inr (.inl y2)), none, none, some (.inl x5), some (.inl x6), some (.inl x7), some (.inl x8)] [] h := by
  refine x_iload (q123c0 56 rfl) rfl ?_
  refine x_iload_n (q123c0 57 rfl) rfl ?_
  refine x_icmp_ge (q123c0 58 rfl) (fun c1 => ?_) (fun c1 => ?_)
  · replace H := H.1 c1
    refine x_iload (q123c1 20 rfl) rfl ?_
    refine x_if_eq (q123c1 21 rfl) (fun c2 => ?_) (fun c2 => ?_)
    · replace H := H.1 c2
      obtain ⟨s3, H⟩ := H
      refine x_iload (q123c1 24 rfl) rfl ?_
      refine x_istore (q123c1 25 rfl) ⟨Nat.le_of_ble_eq_true rfl, trivial⟩ ?_
      refine x_iinc (q123c1 26 rfl) rfl ⟨Nat.le_of_ble_eq_true rfl, trivial⟩ s3 ?_
      refine x_goto (q123c1 27 rfl) ?_
      exact am_x_weak (ls' := [some (.inr (.inr 56)), some (.inl x1), some (.inr (.inl y2)), none, none, some (.inl x5), some (.inl (x6 + (-1))), some (.inl x7), some (.inl x8)]) (lle_c (lle_c (lle_c (lle_c (lle_c (lle_c (lle_c (lle_d trivial (lle_d trivial (lle_nil)))))))))) H
    · replace H := H.2 c2
      obtain ⟨s4, H⟩ := H
      refine x_iload (q123c1 22 rfl) rfl ?_
      refine x_goto (q123c1 23 rfl) ?_
      refine x_istore (q123c1 25 rfl) ⟨Nat.le_of_ble_eq_true rfl, trivial⟩ ?_
      refine x_iinc (q123c1 26 rfl) rfl ⟨Nat.le_of_ble_eq_true rfl, trivial⟩ s4 ?_
      refine x_goto (q123c1 27 rfl) ?_
      exact am_x_weak (ls' := [some (.inr (.inr 56)), some (.inl x1), some (.inr (.inl y2)), none, none, some (.inl x6), some (.inl (x6 + (-1))), some (.inl x7), some (.inl x8)]) (lle_c (lle_c (lle_c (lle_c (lle_c (lle_c (lle_c (lle_d trivial (lle_d trivial (lle_nil)))))))))) H
  · replace H := H.2 c1
    refine x_iload (q123c0 59 rfl) rfl ?_
    refine x_if_eq (q123c1 0 rfl) (fun c5 => ?_) (fun c5 => ?_)
    · replace H := H.1 c5
      obtain ⟨s6, H⟩ := H
      refine x_iload (q123c1 20 rfl) rfl ?_
      refine x_if_eq_t (q123c1 21 rfl) c5 ?_
      refine x_iload (q123c1 24 rfl) rfl ?_
      refine x_istore (q123c1 25 rfl) ⟨Nat.le_of_ble_eq_true rfl, trivial⟩ ?_
      refine x_iinc (q123c1 26 rfl) rfl ⟨Nat.le_of_ble_eq_true rfl, trivial⟩ s6 ?_
      refine x_goto (q123c1 27 rfl) ?_
      exact am_x_weak (ls' := [some (.inr (.inr 56)), some (.inl x1), some (.inr (.inl y2)), none, none, some (.inl x5), some (.inl (x6 + (-1))), some (.inl x7), some (.inl x8)]) (lle_c (lle_c (lle_c (lle_c (lle_c (lle_c (lle_c (lle_d trivial (lle_d trivial (lle_nil)))))))))) H
    · replace H := H.2 c5
      refine x_aload_n (q123c1 1 rfl) rfl ?_
      refine x_iload (q123c1 2 rfl) rfl ?_
      refine x_iload (q123c1 3 rfl) rfl ?_
      refine x_cvi (q123c1 4 rfl) rfl oc56 rfl (Nat.le_of_ble_eq_true rfl) (am_lifti (Nat.le_of_ble_eq_true rfl) (e_Mo_soundOf (r1 := h 57 (251 + 9 * x6 + x8)) (rfl) ?_))
      obtain ⟨⟨s7, s8, s9, s10, s11⟩, H⟩ := H
      refine ⟨⟨s7, s8, s9, s10, s11⟩, ?_⟩
      obtain ⟨s12, H⟩ := H
      refine x_lload_n (q123c1 5 rfl) rfl ?_
      refine x_bipush (q123c1 6 rfl) ?_
      refine x_iload (q123c1 7 rfl) rfl ?_
      refine x_imul (q123c1 8 rfl) s12 ?_
      refine x_lshr (q123c1 9 rfl) ?_
      refine x_ldc2 (q123c1 10 rfl) ?_
      refine x_land (q123c1 11 rfl) ?_
      refine x_l2i (q123c1 12 rfl) ?_
      refine x_icmp_ne (q123c1 13 rfl) (fun c13 => ?_) (fun c13 => ?_)
      · replace H := H.1 c13
        obtain ⟨s14, H⟩ := H
        refine x_iconst (q123c1 16 rfl) ?_
        refine x_istore (q123c1 17 rfl) ⟨Nat.le_of_ble_eq_true rfl, trivial⟩ ?_
        refine x_iinc (q123c1 18 rfl) rfl ⟨Nat.le_of_ble_eq_true rfl, trivial⟩ s14 ?_
        refine x_goto (q123c1 19 rfl) ?_
        exact H
      · replace H := H.2 c13
        obtain ⟨s15, H⟩ := H
        refine x_iconst (q123c1 14 rfl) ?_
        refine x_goto (q123c1 15 rfl) ?_
        refine x_istore (q123c1 17 rfl) ⟨Nat.le_of_ble_eq_true rfl, trivial⟩ ?_
        refine x_iinc (q123c1 18 rfl) rfl ⟨Nat.le_of_ble_eq_true rfl, trivial⟩ s15 ?_
        refine x_goto (q123c1 19 rfl) ?_
        exact H
theorem g_Mo_form_242 {h : am_H} {x1 : Int} {y2 : Int64} {x6 : Int} {x7 : Int} {P : Int → am_H → Prop} (H : (x1 ≤ x7 → P x6 h) ∧ (x7 < x1 → ((am_ok (9 * x6) ∧ am_ok (250 + 9 * x6) ∧ am_ok (250 + 9 * x6 + 1) ∧ am_ok (250 + 9 * x6 + 1 + x7) ∧ am_ok (8 * x7) ∧ (0 ≤ 250 + 9 * x6 + 1 + x7 ∧ 250 + 9 * x6 + 1 + x7 < 820) ∧ am_ok (x7 + 1)) ∧ am_x (am_cd 1) 123 (am_qi P) 0 242 [some (.inr (.inr 56)), some (.inl x1), some (.inr (.inl y2)), none, none, none, some (.inl x6), some (.inl (x7 + 1)), none] [] (am_up h 57 (251 + 9 * x6 + x7) ((am_lshr y2 (8 * x7)) &&& (Int64.ofInt 255)).toInt32.toInt)))) : am_x (am_cd 1) 123 (am_qi P) 0 242 [some (.inr (.inr 56)), some (.inl x1), some (.inr (.inl y2)), none, none, none, some (.inl x6), some (.inl x7), none] [] h := by
  refine x_iload (q123c2 10 rfl) rfl ?_
  refine x_iload_n (q123c2 11 rfl) rfl ?_
  refine x_icmp_ge (q123c2 12 rfl) (fun c1 => ?_) (fun c1 => ?_)
  · replace H := H.1 c1
    refine x_iload (q123c2 35 rfl) rfl ?_
    exact x_ireti (q123c2 36 rfl) zb123 H
  · replace H := H.2 c1
    obtain ⟨⟨s2, s3, s4, s5, s6, s7, s8⟩, H⟩ := H
    refine x_aload_n (q123c2 13 rfl) rfl ?_
    refine x_getr (q123c2 14 rfl) fd56_0 ?_
    refine x_sipush (q123c2 15 rfl) ?_
    refine x_bipush (q123c2 16 rfl) ?_
    refine x_iload (q123c2 17 rfl) rfl ?_
    refine x_imul (q123c2 18 rfl) s2 ?_
    refine x_iadd (q123c2 19 rfl) s3 ?_
    refine x_iconst (q123c2 20 rfl) ?_
    refine x_iadd (q123c2 21 rfl) s4 ?_
    refine x_iload (q123c2 22 rfl) rfl ?_
    refine x_iadd (q123c2 23 rfl) s5 ?_
    refine x_lload_n (q123c2 24 rfl) rfl ?_
    refine x_bipush (q123c2 25 rfl) ?_
    refine x_iload (q123c2 26 rfl) rfl ?_
    refine x_imul (q123c2 27 rfl) s6 ?_
    refine x_lshr (q123c2 28 rfl) ?_
    refine x_ldc2 (q123c2 29 rfl) ?_
    refine x_land (q123c2 30 rfl) ?_
    refine x_l2i (q123c2 31 rfl) ?_
    refine x_iastore (q123c2 32 rfl) (al57 _) rfl (Nat.le_of_ble_eq_true rfl) s7 (j := 251 + 9 * x6 + x7) (by omega) ?_
    refine x_iinc (q123c2 33 rfl) rfl ⟨Nat.le_of_ble_eq_true rfl, trivial⟩ s8 ?_
    refine x_goto (q123c2 34 rfl) ?_
    exact H
theorem e_Mo_farOf {h : am_H} {x1 : Int} {x2 : Int} {P : Int → am_H → Prop} (H : am_x (am_cd 1) 124 (am_qi P) 0 2 [some (.inr (.inr 56)), some (.inl x1), some (.inl x2), some (.inl 0), none, none, none, none] [] h) : ∃ a h1, am_cd 2 124 [.inr (.inr 56), .inl x1, .inl x2] h (some (.inl a)) h1 ∧ P a h1 := by
  refine am_outi (d := 1) (ls := [some (.inr (.inr 56)), some (.inl x1), some (.inl x2), none, none, none, none, none]) rfl ab124 ml124 (Nat.le_of_ble_eq_true rfl) np124 rfl ?_
  refine x_iconst (q124c0 0 rfl) ?_
  refine x_istore_n (q124c0 1 rfl) ⟨Nat.le_of_ble_eq_true rfl, trivial⟩ ?_
  exact H
theorem g_Mo_farOf_2 {h : am_H} {x1 : Int} {x2 : Int} {x3 : Int} {P : Int → am_H → Prop} (H : (am_ok (9 * x1) ∧ am_ok (250 + 9 * x1) ∧ (0 ≤ 250 + 9 * x1 ∧ 250 + 9 * x1 < 820)) ∧ ((h 57 (250 + 9 * x1) < x3 → ((am_ok (9 * h 57 (250 + 9 * x1))) ∧ ((am_ok (9 * x2) ∧ am_ok (250 + 9 * x2) ∧ (0 ≤ 250 + 9 * x2 ∧ 250 + 9 * x2 < 820)) ∧ ((am_ok (9 * h 57 (250 + 9 * x1) + h 57 (250 + 9 * x2)) ∧ (0 ≤ 9 * h 57 (250 + 9 * x1) + h 57 (250 + 9 * x2) ∧ 9 * h 57 (250 + 9 * x1) + h 57 (250 + 9 * x2) < 81)) ∧ P (h 60 (9 * h 57 (250 + 9 * x1) + h 57 (250 + 9 * x2))) h)))) ∧ (x3 ≤ h 57 (250 + 9 * x1) → am_x (am_cd 1) 124 (am_qi P) 0 14 [some (.inr (.inr 56)), some (.inl x1), some (.inl x2), some (.inl x3), some (.inl 0), none, none, none] [] h))) : am_x (am_cd 1) 124 (am_qi P) 0 2 [some (.inr (.inr 56)), some (.inl x1), some (.inl x2), some (.inl x3), none, none, none, none] [] h := by
  refine x_iload_n (q124c0 2 rfl) rfl ?_
  refine x_aload_n (q124c0 3 rfl) rfl ?_
  refine x_iload_n (q124c0 4 rfl) rfl ?_
  refine x_cvi (q124c0 5 rfl) rfl oc56 rfl (Nat.le_of_ble_eq_true rfl) (am_lifti (Nat.le_of_ble_eq_true rfl) (e_Mo_sizeOfForm (r1 := h 57 (250 + 9 * x1)) (rfl) ?_))
  obtain ⟨⟨s1, s2, s3⟩, H⟩ := H
  refine ⟨⟨s1, s2, s3⟩, ?_⟩
  refine x_icmp_gt (q124c0 6 rfl) (fun c4 => ?_) (fun c4 => ?_)
  · replace H := H.1 c4
    refine x_aload_n (q124c2 22 rfl) rfl ?_
    refine x_getr (q124c2 23 rfl) fd56_5 ?_
    refine x_bipush (q124c2 24 rfl) ?_
    refine x_aload_n (q124c2 25 rfl) rfl ?_
    refine x_iload_n (q124c2 26 rfl) rfl ?_
    refine x_cvi (q124c2 27 rfl) rfl oc56 rfl (Nat.le_of_ble_eq_true rfl) (am_lifti (Nat.le_of_ble_eq_true rfl) (e_Mo_sizeOfForm (r1 := h 57 (250 + 9 * x1)) (rfl) ?_))
    refine ⟨⟨s1, s2, s3⟩, ?_⟩
    obtain ⟨s5, H⟩ := H
    refine x_imul (q124c2 28 rfl) s5 ?_
    refine x_aload_n (q124c2 29 rfl) rfl ?_
    refine x_iload_n (q124c2 30 rfl) rfl ?_
    refine x_cvi (q124c2 31 rfl) rfl oc56 rfl (Nat.le_of_ble_eq_true rfl) (am_lifti (Nat.le_of_ble_eq_true rfl) (e_Mo_sizeOfForm (r1 := h 57 (250 + 9 * x2)) (rfl) ?_))
    obtain ⟨⟨s6, s7, s8⟩, H⟩ := H
    refine ⟨⟨s6, s7, s8⟩, ?_⟩
    obtain ⟨⟨s9, s10⟩, H⟩ := H
    refine x_iadd (q124c2 32 rfl) s9 ?_
    refine x_iaload (q124c2 33 rfl) (al60 _) rfl (ag_l rfl rfl (rfl)) s10 ?_
    exact x_ireti (q124c2 34 rfl) zb124 H
  · replace H := H.2 c4
    refine x_iconst (q124c0 7 rfl) ?_
    refine x_istore (q124c0 8 rfl) ⟨Nat.le_of_ble_eq_true rfl, trivial⟩ ?_
    exact H
theorem g_Mo_farOf_14 {h : am_H} {x1 : Int} {x2 : Int} {x3 : Int} {x4 : Int} {P : Int → am_H → Prop} (H : (am_ok (9 * x2) ∧ am_ok (250 + 9 * x2) ∧ (0 ≤ 250 + 9 * x2 ∧ 250 + 9 * x2 < 820)) ∧ ((h 57 (250 + 9 * x2) < x4 → ((am_ok (x3 + 1)) ∧ am_x (am_cd 1) 124 (am_qi P) 0 2 [some (.inr (.inr 56)), some (.inl x1), some (.inl x2), some (.inl (x3 + 1)), none, none, none, none] [] h)) ∧ (x4 ≤ h 57 (250 + 9 * x2) → ((x3 ≠ 0 → ((am_ok (2 * x3)) ∧ am_x (am_cd 1) 124 (am_qi P) 0 40 [some (.inr (.inr 56)), some (.inl x1), some (.inl x2), some (.inl x3), some (.inl x4), some (.inl (2 * x3)), none, none] [] h)) ∧ (x3 = 0 → ((am_ok (2 * x4)) ∧ am_x (am_cd 1) 124 (am_qi P) 0 40 [some (.inr (.inr 56)), some (.inl x1), some (.inl x2), some (.inl x3), some (.inl x4), some (.inl (2 * x4)), none, none] [] h)))))) : am_x (am_cd 1) 124 (am_qi P) 0 14 [some (.inr (.inr 56)), some (.inl x1), some (.inl x2), some (.inl x3), some (.inl x4), none, none, none] [] h := by
  refine x_iload (q124c0 9 rfl) rfl ?_
  refine x_aload_n (q124c0 10 rfl) rfl ?_
  refine x_iload_n (q124c0 11 rfl) rfl ?_
  refine x_cvi (q124c0 12 rfl) rfl oc56 rfl (Nat.le_of_ble_eq_true rfl) (am_lifti (Nat.le_of_ble_eq_true rfl) (e_Mo_sizeOfForm (r1 := h 57 (250 + 9 * x2)) (rfl) ?_))
  obtain ⟨⟨s1, s2, s3⟩, H⟩ := H
  refine ⟨⟨s1, s2, s3⟩, ?_⟩
  refine x_icmp_gt (q124c0 13 rfl) (fun c4 => ?_) (fun c4 => ?_)
  · replace H := H.1 c4
    obtain ⟨s5, H⟩ := H
    refine x_iinc (q124c2 20 rfl) rfl ⟨Nat.le_of_ble_eq_true rfl, trivial⟩ s5 ?_
    refine x_goto (q124c2 21 rfl) ?_
    exact am_x_weak (ls' := [some (.inr (.inr 56)), some (.inl x1), some (.inl x2), some (.inl (x3 + 1)), some (.inl x4), none, none, none]) (lle_c (lle_c (lle_c (lle_c (lle_d trivial (lle_c (lle_c (lle_c (lle_nil))))))))) H
  · replace H := H.2 c4
    refine x_iload_n (q124c0 14 rfl) rfl ?_
    refine x_if_ne (q124c0 15 rfl) (fun c6 => ?_) (fun c6 => ?_)
    · replace H := H.1 c6
      obtain ⟨s7, H⟩ := H
      refine x_iconst (q124c0 20 rfl) ?_
      refine x_iload_n (q124c0 21 rfl) rfl ?_
      refine x_imul (q124c0 22 rfl) s7 ?_
      refine x_istore (q124c0 23 rfl) ⟨Nat.le_of_ble_eq_true rfl, trivial⟩ ?_
      exact H
    · replace H := H.2 c6
      obtain ⟨s8, H⟩ := H
      refine x_iconst (q124c0 16 rfl) ?_
      refine x_iload (q124c0 17 rfl) rfl ?_
      refine x_imul (q124c0 18 rfl) s8 ?_
      refine x_goto (q124c0 19 rfl) ?_
      refine x_istore (q124c0 23 rfl) ⟨Nat.le_of_ble_eq_true rfl, trivial⟩ ?_
      exact H
theorem g_Mo_farOf_40 {h : am_H} {x1 : Int} {x2 : Int} {x3 : Int} {x4 : Int} {x5 : Int} {P : Int → am_H → Prop} (H : (x3 ≤ 0 → am_x (am_cd 1) 124 (am_qi P) 0 207 [some (.inr (.inr 56)), some (.inl x1), some (.inl x2), some (.inl x3), some (.inl x4), some (.inl x5), none, none] [] h) ∧ (0 < x3 → ((x4 ≤ 0 → am_x (am_cd 1) 124 (am_qi P) 0 207 [some (.inr (.inr 56)), some (.inl x1), some (.inl x2), some (.inl x3), some (.inl x4), some (.inl x5), none, none] [] h) ∧ (0 < x4 → ((am_ok (x3 - 1)) ∧ ((am_ok (9 * x1) ∧ am_ok (250 + 9 * x1) ∧ am_ok (250 + 9 * x1 + 1) ∧ am_ok (250 + 9 * x1 + 1 + (x3 - 1)) ∧ (0 ≤ 250 + 9 * x1 + 1 + (x3 - 1) ∧ 250 + 9 * x1 + 1 + (x3 - 1) < 820)) ∧ ((am_ok (x4 - 1)) ∧ ((am_ok (9 * x2) ∧ am_ok (250 + 9 * x2) ∧ am_ok (250 + 9 * x2 + 1) ∧ am_ok (250 + 9 * x2 + 1 + (x4 - 1)) ∧ (0 ≤ 250 + 9 * x2 + 1 + (x4 - 1) ∧ 250 + 9 * x2 + 1 + (x4 - 1) < 820)) ∧ ((am_ok (9 * x3) ∧ am_ok (9 * x3 - 9) ∧ am_ok (9 * x3 - 9 + x4) ∧ am_ok (9 * x3 - 9 + x4 - 1) ∧ (0 ≤ 9 * x3 - 9 + x4 - 1 ∧ 9 * x3 - 9 + x4 - 1 < 81)) ∧ ((h 57 (250 + 9 * x1 + x3) ≠ h 57 (250 + 9 * x2 + x4) → (((0 ≤ h 57 (250 + 9 * x1 + x3)) ∧ (0 ≤ h 57 (250 + 9 * x2 + x4))) ∧ ((h 57 (250 + 9 * x1 + x3) / 5 ≠ h 57 (250 + 9 * x2 + x4) / 5 → ((am_ok (h 60 ((-10) + 9 * x3 + x4) + 3)) ∧ am_x (am_cd 1) 124 (am_qi P) 0 117 [some (.inr (.inr 56)), some (.inl x1), some (.inl x2), some (.inl x3), some (.inl x4), some (.inl (h 60 ((-10) + 9 * x3 + x4) + 3)), none, none] [] h)) ∧ (h 57 (250 + 9 * x1 + x3) / 5 = h 57 (250 + 9 * x2 + x4) / 5 → ((am_ok (h 60 ((-10) + 9 * x3 + x4) + 1)) ∧ am_x (am_cd 1) 124 (am_qi P) 0 117 [some (.inr (.inr 56)), some (.inl x1), some (.inl x2), some (.inl x3), some (.inl x4), some (.inl (h 60 ((-10) + 9 * x3 + x4) + 1)), none, none] [] h))))) ∧ (h 57 (250 + 9 * x1 + x3) = h 57 (250 + 9 * x2 + x4) → ((am_ok (h 60 ((-10) + 9 * x3 + x4) + 0)) ∧ am_x (am_cd 1) 124 (am_qi P) 0 117 [some (.inr (.inr 56)), some (.inl x1), some (.inl x2), some (.inl x3), some (.inl x4), some (.inl (h 60 ((-10) + 9 * x3 + x4) + 0)), none, none] [] h)))))))))))) : am_x (am_cd 1) 124 (am_qi P) 0 40 [some (.inr (.inr 56)), some (.inl x1), some (.inl x2), some (.inl x3), some (.inl x4), some (.inl x5), none, none] [] h := by
  refine x_iload_n (q124c0 24 rfl) rfl ?_
  refine x_if_le (q124c0 25 rfl) (fun c1 => ?_) (fun c1 => ?_)
  · replace H := H.1 c1
    exact H
  · replace H := H.2 c1
    refine x_iload (q124c0 26 rfl) rfl ?_
    refine x_if_le (q124c0 27 rfl) (fun c2 => ?_) (fun c2 => ?_)
    · replace H := H.1 c2
      exact H
    · replace H := H.2 c2
      obtain ⟨s3, H⟩ := H
      refine x_aload_n (q124c0 28 rfl) rfl ?_
      refine x_iload_n (q124c0 29 rfl) rfl ?_
      refine x_iload_n (q124c0 30 rfl) rfl ?_
      refine x_iconst (q124c0 31 rfl) ?_
      refine x_isub (q124c0 32 rfl) s3 ?_
      refine x_cvi (q124c0 33 rfl) rfl oc56 rfl (Nat.le_of_ble_eq_true rfl) (am_lifti (Nat.le_of_ble_eq_true rfl) (e_Mo_soundOf (r1 := h 57 (250 + 9 * x1 + x3)) (rd_j (j1 := 250 + 9 * x1 + x3) (by omega) (rfl)) ?_))
      obtain ⟨⟨s4, s5, s6, s7, s8⟩, H⟩ := H
      refine ⟨⟨s4, s5, s6, s7, s8⟩, ?_⟩
      obtain ⟨s9, H⟩ := H
      refine x_istore (q124c0 34 rfl) ⟨Nat.le_of_ble_eq_true rfl, trivial⟩ ?_
      refine x_aload_n (q124c0 35 rfl) rfl ?_
      refine x_iload_n (q124c0 36 rfl) rfl ?_
      refine x_iload (q124c0 37 rfl) rfl ?_
      refine x_iconst (q124c0 38 rfl) ?_
      refine x_isub (q124c0 39 rfl) s9 ?_
      refine x_cvi (q124c0 40 rfl) rfl oc56 rfl (Nat.le_of_ble_eq_true rfl) (am_lifti (Nat.le_of_ble_eq_true rfl) (e_Mo_soundOf (r1 := h 57 (250 + 9 * x2 + x4)) (rd_j (j1 := 250 + 9 * x2 + x4) (by omega) (rfl)) ?_))
      obtain ⟨⟨s10, s11, s12, s13, s14⟩, H⟩ := H
      refine ⟨⟨s10, s11, s12, s13, s14⟩, ?_⟩
      obtain ⟨⟨s15, s16, s17, s18, s19⟩, H⟩ := H
      refine x_istore (q124c0 41 rfl) ⟨Nat.le_of_ble_eq_true rfl, trivial⟩ ?_
      refine x_aload_n (q124c0 42 rfl) rfl ?_
      refine x_getr (q124c0 43 rfl) fd56_5 ?_
      refine x_bipush (q124c0 44 rfl) ?_
      refine x_iload_n (q124c0 45 rfl) rfl ?_
      refine x_imul (q124c0 46 rfl) s15 ?_
      refine x_bipush (q124c0 47 rfl) ?_
      refine x_isub (q124c0 48 rfl) s16 ?_
      refine x_iload (q124c0 49 rfl) rfl ?_
      refine x_iadd (q124c0 50 rfl) s17 ?_
      refine x_iconst (q124c0 51 rfl) ?_
      refine x_isub (q124c0 52 rfl) s18 ?_
      refine x_iaload (q124c0 53 rfl) (al60 _) rfl (ag_l (j1 := (-10) + 9 * x3 + x4) rfl (by omega) (rfl)) s19 ?_
      refine x_iload (q124c0 54 rfl) rfl ?_
      refine x_iload (q124c0 55 rfl) rfl ?_
      refine x_icmp_ne (q124c0 56 rfl) (fun c20 => ?_) (fun c20 => ?_)
      · replace H := H.1 c20
        obtain ⟨⟨s21, s22⟩, H⟩ := H
        refine x_iload (q124c0 59 rfl) rfl ?_
        refine x_iconst (q124c1 0 rfl) ?_
        refine x_idiv (q124c1 1 rfl) ⟨by decide, s21⟩ ?_
        refine x_iload (q124c1 2 rfl) rfl ?_
        refine x_iconst (q124c1 3 rfl) ?_
        refine x_idiv (q124c1 4 rfl) ⟨by decide, s22⟩ ?_
        refine x_icmp_ne (q124c1 5 rfl) (fun c23 => ?_) (fun c23 => ?_)
        · replace H := H.1 c23
          obtain ⟨s24, H⟩ := H
          refine x_iconst (q124c1 8 rfl) ?_
          refine x_iadd (q124c1 9 rfl) s24 ?_
          refine x_istore (q124c1 10 rfl) ⟨Nat.le_of_ble_eq_true rfl, trivial⟩ ?_
          exact am_x_weak (ls' := [some (.inr (.inr 56)), some (.inl x1), some (.inl x2), some (.inl x3), some (.inl x4), some (.inl (h 60 ((-10) + 9 * x3 + x4) + 3)), some (.inl (h 57 (250 + 9 * x1 + x3))), some (.inl (h 57 (250 + 9 * x2 + x4)))]) (lle_c (lle_c (lle_c (lle_c (lle_c (lle_c (lle_d trivial (lle_d trivial (lle_nil))))))))) H
        · replace H := H.2 c23
          obtain ⟨s25, H⟩ := H
          refine x_iconst (q124c1 6 rfl) ?_
          refine x_goto (q124c1 7 rfl) ?_
          refine x_iadd (q124c1 9 rfl) s25 ?_
          refine x_istore (q124c1 10 rfl) ⟨Nat.le_of_ble_eq_true rfl, trivial⟩ ?_
          exact am_x_weak (ls' := [some (.inr (.inr 56)), some (.inl x1), some (.inl x2), some (.inl x3), some (.inl x4), some (.inl (h 60 ((-10) + 9 * x3 + x4) + 1)), some (.inl (h 57 (250 + 9 * x1 + x3))), some (.inl (h 57 (250 + 9 * x2 + x4)))]) (lle_c (lle_c (lle_c (lle_c (lle_c (lle_c (lle_d trivial (lle_d trivial (lle_nil))))))))) H
      · replace H := H.2 c20
        obtain ⟨s26, H⟩ := H
        refine x_iconst (q124c0 57 rfl) ?_
        refine x_goto (q124c0 58 rfl) ?_
        refine x_iadd (q124c1 9 rfl) s26 ?_
        refine x_istore (q124c1 10 rfl) ⟨Nat.le_of_ble_eq_true rfl, trivial⟩ ?_
        exact am_x_weak (ls' := [some (.inr (.inr 56)), some (.inl x1), some (.inl x2), some (.inl x3), some (.inl x4), some (.inl (h 60 ((-10) + 9 * x3 + x4) + 0)), some (.inl (h 57 (250 + 9 * x1 + x3))), some (.inl (h 57 (250 + 9 * x2 + x4)))]) (lle_c (lle_c (lle_c (lle_c (lle_c (lle_c (lle_d trivial (lle_d trivial (lle_nil))))))))) H
theorem g_Mo_farOf_117 {h : am_H} {x1 : Int} {x2 : Int} {x3 : Int} {x4 : Int} {x5 : Int} {P : Int → am_H → Prop} (H : (am_ok (9 * x3) ∧ am_ok (9 * x3 - 9) ∧ am_ok (9 * x3 - 9 + x4) ∧ (0 ≤ 9 * x3 - 9 + x4 ∧ 9 * x3 - 9 + x4 < 81) ∧ am_ok (h 60 ((-9) + 9 * x3 + x4) + 2)) ∧ ((x5 ≤ h 60 ((-9) + 9 * x3 + x4) + 2 → am_x (am_cd 1) 124 (am_qi P) 0 163 [some (.inr (.inr 56)), some (.inl x1), some (.inl x2), some (.inl x3), some (.inl x4), some (.inl x5), none, none] [] h) ∧ (h 60 ((-9) + 9 * x3 + x4) + 2 < x5 → am_x (am_cd 1) 124 (am_qi P) 0 163 [some (.inr (.inr 56)), some (.inl x1), some (.inl x2), some (.inl x3), some (.inl x4), some (.inl (h 60 ((-9) + 9 * x3 + x4) + 2)), none, none] [] h))) : am_x (am_cd 1) 124 (am_qi P) 0 117 [some (.inr (.inr 56)), some (.inl x1), some (.inl x2), some (.inl x3), some (.inl x4), some (.inl x5), none, none] [] h := by
  obtain ⟨⟨s1, s2, s3, s4, s5⟩, H⟩ := H
  refine x_aload_n (q124c1 11 rfl) rfl ?_
  refine x_getr (q124c1 12 rfl) fd56_5 ?_
  refine x_bipush (q124c1 13 rfl) ?_
  refine x_iload_n (q124c1 14 rfl) rfl ?_
  refine x_imul (q124c1 15 rfl) s1 ?_
  refine x_bipush (q124c1 16 rfl) ?_
  refine x_isub (q124c1 17 rfl) s2 ?_
  refine x_iload (q124c1 18 rfl) rfl ?_
  refine x_iadd (q124c1 19 rfl) s3 ?_
  refine x_iaload (q124c1 20 rfl) (al60 _) rfl (ag_l (j1 := (-9) + 9 * x3 + x4) rfl (by omega) (rfl)) s4 ?_
  refine x_iconst (q124c1 21 rfl) ?_
  refine x_iadd (q124c1 22 rfl) s5 ?_
  refine x_iload (q124c1 23 rfl) rfl ?_
  refine x_icmp_ge (q124c1 24 rfl) (fun c6 => ?_) (fun c6 => ?_)
  · replace H := H.1 c6
    refine x_iload (q124c1 38 rfl) rfl ?_
    refine x_istore (q124c1 39 rfl) ⟨Nat.le_of_ble_eq_true rfl, trivial⟩ ?_
    exact H
  · replace H := H.2 c6
    refine x_aload_n (q124c1 25 rfl) rfl ?_
    refine x_getr (q124c1 26 rfl) fd56_5 ?_
    refine x_bipush (q124c1 27 rfl) ?_
    refine x_iload_n (q124c1 28 rfl) rfl ?_
    refine x_imul (q124c1 29 rfl) s1 ?_
    refine x_bipush (q124c1 30 rfl) ?_
    refine x_isub (q124c1 31 rfl) s2 ?_
    refine x_iload (q124c1 32 rfl) rfl ?_
    refine x_iadd (q124c1 33 rfl) s3 ?_
    refine x_iaload (q124c1 34 rfl) (al60 _) rfl (ag_l (j1 := (-9) + 9 * x3 + x4) rfl (by omega) (rfl)) s4 ?_
    refine x_iconst (q124c1 35 rfl) ?_
    refine x_iadd (q124c1 36 rfl) s5 ?_
    refine x_goto (q124c1 37 rfl) ?_
    refine x_istore (q124c1 39 rfl) ⟨Nat.le_of_ble_eq_true rfl, trivial⟩ ?_
    exact H
theorem g_Mo_farOf_163 {h : am_H} {x1 : Int} {x2 : Int} {x3 : Int} {x4 : Int} {x5 : Int} {P : Int → am_H → Prop} (H : (am_ok (9 * x3) ∧ am_ok (9 * x3 + x4) ∧ am_ok (9 * x3 + x4 - 1) ∧ (0 ≤ 9 * x3 + x4 - 1 ∧ 9 * x3 + x4 - 1 < 81) ∧ am_ok (h 60 ((-1) + 9 * x3 + x4) + 2)) ∧ ((x5 ≤ h 60 ((-1) + 9 * x3 + x4) + 2 → am_x (am_cd 1) 124 (am_qi P) 0 207 [some (.inr (.inr 56)), some (.inl x1), some (.inl x2), some (.inl x3), some (.inl x4), some (.inl x5), none, none] [] h) ∧ (h 60 ((-1) + 9 * x3 + x4) + 2 < x5 → am_x (am_cd 1) 124 (am_qi P) 0 207 [some (.inr (.inr 56)), some (.inl x1), some (.inl x2), some (.inl x3), some (.inl x4), some (.inl (h 60 ((-1) + 9 * x3 + x4) + 2)), none, none] [] h))) : am_x (am_cd 1) 124 (am_qi P) 0 163 [some (.inr (.inr 56)), some (.inl x1), some (.inl x2), some (.inl x3), some (.inl x4), some (.inl x5), none, none] [] h := by
  obtain ⟨⟨s1, s2, s3, s4, s5⟩, H⟩ := H
  refine x_aload_n (q124c1 40 rfl) rfl ?_
  refine x_getr (q124c1 41 rfl) fd56_5 ?_
  refine x_bipush (q124c1 42 rfl) ?_
  refine x_iload_n (q124c1 43 rfl) rfl ?_
  refine x_imul (q124c1 44 rfl) s1 ?_
  refine x_iload (q124c1 45 rfl) rfl ?_
  refine x_iadd (q124c1 46 rfl) s2 ?_
  refine x_iconst (q124c1 47 rfl) ?_
  refine x_isub (q124c1 48 rfl) s3 ?_
  refine x_iaload (q124c1 49 rfl) (al60 _) rfl (ag_l (j1 := (-1) + 9 * x3 + x4) rfl (by omega) (rfl)) s4 ?_
  refine x_iconst (q124c1 50 rfl) ?_
  refine x_iadd (q124c1 51 rfl) s5 ?_
  refine x_iload (q124c1 52 rfl) rfl ?_
  refine x_icmp_ge (q124c1 53 rfl) (fun c6 => ?_) (fun c6 => ?_)
  · replace H := H.1 c6
    refine x_iload (q124c2 7 rfl) rfl ?_
    refine x_istore (q124c2 8 rfl) ⟨Nat.le_of_ble_eq_true rfl, trivial⟩ ?_
    exact H
  · replace H := H.2 c6
    refine x_aload_n (q124c1 54 rfl) rfl ?_
    refine x_getr (q124c1 55 rfl) fd56_5 ?_
    refine x_bipush (q124c1 56 rfl) ?_
    refine x_iload_n (q124c1 57 rfl) rfl ?_
    refine x_imul (q124c1 58 rfl) s1 ?_
    refine x_iload (q124c1 59 rfl) rfl ?_
    refine x_iadd (q124c2 0 rfl) s2 ?_
    refine x_iconst (q124c2 1 rfl) ?_
    refine x_isub (q124c2 2 rfl) s3 ?_
    refine x_iaload (q124c2 3 rfl) (al60 _) rfl (ag_l (j1 := (-1) + 9 * x3 + x4) rfl (by omega) (rfl)) s4 ?_
    refine x_iconst (q124c2 4 rfl) ?_
    refine x_iadd (q124c2 5 rfl) s5 ?_
    refine x_goto (q124c2 6 rfl) ?_
    refine x_istore (q124c2 8 rfl) ⟨Nat.le_of_ble_eq_true rfl, trivial⟩ ?_
    exact H
theorem g_Mo_farOf_207 {h : am_H} {x1 : Int} {x2 : Int} {x3 : Int} {x4 : Int} {x5 : Int} {P : Int → am_H → Prop} (H : (am_ok (9 * x3) ∧ am_ok (9 * x3 + x4) ∧ (0 ≤ 9 * x3 + x4 ∧ 9 * x3 + x4 < 81) ∧ am_ok (x4 + 1)) ∧ am_x (am_cd 1) 124 (am_qi P) 0 14 [some (.inr (.inr 56)), some (.inl x1), some (.inl x2), some (.inl x3), some (.inl (x4 + 1)), none, none, none] [] (am_up h 60 (9 * x3 + x4) x5)) : am_x (am_cd 1) 124 (am_qi P) 0 207 [some (.inr (.inr 56)), some (.inl x1), some (.inl x2), some (.inl x3), some (.inl x4), some (.inl x5), none, none] [] h := by
  obtain ⟨⟨s1, s2, s3, s4⟩, H⟩ := H
  refine x_aload_n (q124c2 9 rfl) rfl ?_
  refine x_getr (q124c2 10 rfl) fd56_5 ?_
  refine x_bipush (q124c2 11 rfl) ?_
  refine x_iload_n (q124c2 12 rfl) rfl ?_
  refine x_imul (q124c2 13 rfl) s1 ?_
  refine x_iload (q124c2 14 rfl) rfl ?_
  refine x_iadd (q124c2 15 rfl) s2 ?_
  refine x_iload (q124c2 16 rfl) rfl ?_
  refine x_iastore (q124c2 17 rfl) (al60 _) rfl (Nat.le_of_ble_eq_true rfl) s3 (j := 9 * x3 + x4) rfl ?_
  refine x_iinc (q124c2 18 rfl) rfl ⟨Nat.le_of_ble_eq_true rfl, trivial⟩ s4 ?_
  refine x_goto (q124c2 19 rfl) ?_
  exact am_x_weak (ls' := [some (.inr (.inr 56)), some (.inl x1), some (.inl x2), some (.inl x3), some (.inl (x4 + 1)), some (.inl x5), none, none]) (lle_c (lle_c (lle_c (lle_c (lle_c (lle_d trivial (lle_c (lle_c (lle_nil))))))))) H
theorem e_Mo_take {h : am_H} {x1 : Int} {P : Int → am_H → Prop} (H : (am_ok (h 57 3 - 1)) ∧ (((0 ≤ x1 ∧ x1 ≤ h 57 3 - 1) → ((am_ok (5 * x1) ∧ am_ok (520 + 5 * x1) ∧ am_ok (520 + 5 * x1 + 4) ∧ (0 ≤ 520 + 5 * x1 + 4 ∧ 520 + 5 * x1 + 4 < 820)) ∧ ((h 57 (524 + 5 * x1) < 0 → (∃ h8, am_cd 1 77 [.inr (.inr 56)] h none h8 ∧ P 1 (am_up h8 57 (524 + 5 * x1) (h8 57 4)))) ∧ (0 ≤ h 57 (524 + 5 * x1) → ((am_ok (h 56 3 + 1)) ∧ P (-100007) (am_up h 56 3 (h 56 3 + 1))))))) ∧ ((¬(0 ≤ x1 ∧ x1 ≤ h 57 3 - 1)) → ((am_ok (h 56 3 + 1)) ∧ P (-100001) (am_up h 56 3 (h 56 3 + 1)))))) : ∃ a h1, am_cd 2 125 [.inr (.inr 56), .inl x1] h (some (.inl a)) h1 ∧ P a h1 := by
  refine am_outi (d := 1) (ls := [some (.inr (.inr 56)), some (.inl x1)]) rfl ab125 ml125 (Nat.le_of_ble_eq_true rfl) np125 rfl ?_
  obtain ⟨s1, H⟩ := H
  refine x_iload_n (q125c0 0 rfl) rfl ?_
  refine x_iconst (q125c0 1 rfl) ?_
  refine x_aload_n (q125c0 2 rfl) rfl ?_
  refine x_getr (q125c0 3 rfl) fd56_0 ?_
  refine x_iconst (q125c0 4 rfl) ?_
  refine x_iaload (q125c0 5 rfl) (al57 _) rfl (ag_l rfl rfl (rfl)) (by decide) ?_
  refine x_iconst (q125c0 6 rfl) ?_
  refine x_isub (q125c0 7 rfl) s1 ?_
  refine x_csi (q125c0 8 rfl) rfl rfl rfl (Nat.le_of_ble_eq_true rfl) (am_lifti (Nat.le_of_ble_eq_true rfl) (e_Mo_in   ?_))
  refine ⟨fun c2 => ?_, fun c2 => ?_⟩
  · replace H := H.1 c2
    obtain ⟨⟨s3, s4, s5, s6⟩, H⟩ := H
    refine x_if_ne_t (q125c0 9 rfl) (by decide) ?_
    refine x_aload_n (q125c0 14 rfl) rfl ?_
    refine x_getr (q125c0 15 rfl) fd56_0 ?_
    refine x_sipush (q125c0 16 rfl) ?_
    refine x_iconst (q125c0 17 rfl) ?_
    refine x_iload_n (q125c0 18 rfl) rfl ?_
    refine x_imul (q125c0 19 rfl) s3 ?_
    refine x_iadd (q125c0 20 rfl) s4 ?_
    refine x_iconst (q125c0 21 rfl) ?_
    refine x_iadd (q125c0 22 rfl) s5 ?_
    refine x_iaload (q125c0 23 rfl) (al57 _) rfl (ag_l (j1 := 524 + 5 * x1) rfl (by omega) (rfl)) s6 ?_
    refine x_if_lt (q125c0 24 rfl) (fun c7 => ?_) (fun c7 => ?_)
    · replace H := H.1 c7
      refine x_aload_n (q125c0 29 rfl) rfl ?_
      obtain ⟨h8, w9, H⟩ := H
      refine x_cvv (q125c0 30 rfl) rfl oc56 rfl (Nat.le_of_ble_eq_true rfl) ⟨h8, w9, ?_⟩
      refine x_aload_n (q125c0 31 rfl) rfl ?_
      refine x_getr (q125c0 32 rfl) fd56_0 ?_
      refine x_sipush (q125c0 33 rfl) ?_
      refine x_iconst (q125c0 34 rfl) ?_
      refine x_iload_n (q125c0 35 rfl) rfl ?_
      refine x_imul (q125c0 36 rfl) s3 ?_
      refine x_iadd (q125c0 37 rfl) s4 ?_
      refine x_iconst (q125c0 38 rfl) ?_
      refine x_iadd (q125c0 39 rfl) s5 ?_
      refine x_aload_n (q125c0 40 rfl) rfl ?_
      refine x_getr (q125c0 41 rfl) fd56_0 ?_
      refine x_iconst (q125c0 42 rfl) ?_
      refine x_iaload (q125c0 43 rfl) (al57 _) rfl (ag_l rfl rfl (rfl)) (by decide) ?_
      refine x_iastore (q125c0 44 rfl) (al57 _) rfl (Nat.le_of_ble_eq_true rfl) s6 (j := 524 + 5 * x1) (by omega) ?_
      refine x_iconst (q125c0 45 rfl) ?_
      exact x_ireti (q125c0 46 rfl) zb125 H
    · replace H := H.2 c7
      refine x_aload_n (q125c0 25 rfl) rfl ?_
      refine x_ldc (q125c0 26 rfl) ?_
      refine x_cvi (q125c0 27 rfl) rfl oc56 rfl (Nat.le_of_ble_eq_true rfl) (am_lifti (Nat.le_of_ble_eq_true rfl) (e_Mo_finds (r1 := h 56 3) (rfl) ?_))
      obtain ⟨s10, H⟩ := H
      refine ⟨s10, ?_⟩
      exact x_ireti (q125c0 28 rfl) zb125 H
  · replace H := H.2 c2
    refine x_if_ne_f (q125c0 9 rfl) (by decide) ?_
    refine x_aload_n (q125c0 10 rfl) rfl ?_
    refine x_ldc (q125c0 11 rfl) ?_
    refine x_cvi (q125c0 12 rfl) rfl oc56 rfl (Nat.le_of_ble_eq_true rfl) (am_lifti (Nat.le_of_ble_eq_true rfl) (e_Mo_finds (r1 := h 56 3) (rfl) ?_))
    obtain ⟨s11, H⟩ := H
    refine ⟨s11, ?_⟩
    exact x_ireti (q125c0 13 rfl) zb125 H
theorem e_Mo_answerIs {h : am_H} {x1 : Int} {x2 : Int} {P : Int → am_H → Prop} (H : (am_ok (h 57 3 - 1)) ∧ (((0 ≤ x1 ∧ x1 ≤ h 57 3 - 1) → (((0 ≤ x2 ∧ x2 ≤ 4) → ((am_ok (5 * x1) ∧ am_ok (520 + 5 * x1) ∧ am_ok (520 + 5 * x1 + x2) ∧ (0 ≤ 520 + 5 * x1 + x2 ∧ 520 + 5 * x1 + x2 < 820)) ∧ P (h 57 (520 + 5 * x1 + x2)) h)) ∧ ((¬(0 ≤ x2 ∧ x2 ≤ 4)) → ((am_ok (h 56 3 + 1)) ∧ P (-100001) (am_up h 56 3 (h 56 3 + 1)))))) ∧ ((¬(0 ≤ x1 ∧ x1 ≤ h 57 3 - 1)) → ((am_ok (h 56 3 + 1)) ∧ P (-100001) (am_up h 56 3 (h 56 3 + 1)))))) : ∃ a h1, am_cd 2 126 [.inr (.inr 56), .inl x1, .inl x2] h (some (.inl a)) h1 ∧ P a h1 := by
  refine am_outi (d := 1) (ls := [some (.inr (.inr 56)), some (.inl x1), some (.inl x2)]) rfl ab126 ml126 (Nat.le_of_ble_eq_true rfl) np126 rfl ?_
  obtain ⟨s1, H⟩ := H
  refine x_iload_n (q126c0 0 rfl) rfl ?_
  refine x_iconst (q126c0 1 rfl) ?_
  refine x_aload_n (q126c0 2 rfl) rfl ?_
  refine x_getr (q126c0 3 rfl) fd56_0 ?_
  refine x_iconst (q126c0 4 rfl) ?_
  refine x_iaload (q126c0 5 rfl) (al57 _) rfl (ag_l rfl rfl (rfl)) (by decide) ?_
  refine x_iconst (q126c0 6 rfl) ?_
  refine x_isub (q126c0 7 rfl) s1 ?_
  refine x_csi (q126c0 8 rfl) rfl rfl rfl (Nat.le_of_ble_eq_true rfl) (am_lifti (Nat.le_of_ble_eq_true rfl) (e_Mo_in   ?_))
  refine ⟨fun c2 => ?_, fun c2 => ?_⟩
  · replace H := H.1 c2
    refine x_if_eq_f (q126c0 9 rfl) (by decide) ?_
    refine x_iload_n (q126c0 10 rfl) rfl ?_
    refine x_iconst (q126c0 11 rfl) ?_
    refine x_iconst (q126c0 12 rfl) ?_
    refine x_csi (q126c0 13 rfl) rfl rfl rfl (Nat.le_of_ble_eq_true rfl) (am_lifti (Nat.le_of_ble_eq_true rfl) (e_Mo_in   ?_))
    refine ⟨fun c3 => ?_, fun c3 => ?_⟩
    · replace H := H.1 c3
      obtain ⟨⟨s4, s5, s6, s7⟩, H⟩ := H
      refine x_if_eq_f (q126c0 14 rfl) (by decide) ?_
      refine x_aload_n (q126c0 15 rfl) rfl ?_
      refine x_getr (q126c0 16 rfl) fd56_0 ?_
      refine x_sipush (q126c0 17 rfl) ?_
      refine x_iconst (q126c0 18 rfl) ?_
      refine x_iload_n (q126c0 19 rfl) rfl ?_
      refine x_imul (q126c0 20 rfl) s4 ?_
      refine x_iadd (q126c0 21 rfl) s5 ?_
      refine x_iload_n (q126c0 22 rfl) rfl ?_
      refine x_iadd (q126c0 23 rfl) s6 ?_
      refine x_iaload (q126c0 24 rfl) (al57 _) rfl (ag_l rfl rfl (rfl)) s7 ?_
      refine x_goto (q126c0 25 rfl) ?_
      exact x_ireti (q126c0 29 rfl) zb126 H
    · replace H := H.2 c3
      refine x_if_eq_t (q126c0 14 rfl) (by decide) ?_
      refine x_aload_n (q126c0 26 rfl) rfl ?_
      refine x_ldc (q126c0 27 rfl) ?_
      refine x_cvi (q126c0 28 rfl) rfl oc56 rfl (Nat.le_of_ble_eq_true rfl) (am_lifti (Nat.le_of_ble_eq_true rfl) (e_Mo_finds (r1 := h 56 3) (rfl) ?_))
      obtain ⟨s8, H⟩ := H
      refine ⟨s8, ?_⟩
      exact x_ireti (q126c0 29 rfl) zb126 H
  · replace H := H.2 c2
    refine x_if_eq_t (q126c0 9 rfl) (by decide) ?_
    refine x_aload_n (q126c0 26 rfl) rfl ?_
    refine x_ldc (q126c0 27 rfl) ?_
    refine x_cvi (q126c0 28 rfl) rfl oc56 rfl (Nat.le_of_ble_eq_true rfl) (am_lifti (Nat.le_of_ble_eq_true rfl) (e_Mo_finds (r1 := h 56 3) (rfl) ?_))
    obtain ⟨s9, H⟩ := H
    refine ⟨s9, ?_⟩
    exact x_ireti (q126c0 29 rfl) zb126 H
theorem e_Mo_sumOf {h : am_H} {x1 : Int} {x2 : Int} {x3 : Int} {P : Int → am_H → Prop} (H : am_x (am_cd 1) 127 (am_qi P) 0 6 [some (.inr (.inr 56)), some (.inl x1), some (.inl x2), some (.inl x3), some (.inl 0), some (.inl 0)] [] h) : ∃ a h1, am_cd 2 127 [.inr (.inr 56), .inl x1, .inl x2, .inl x3] h (some (.inl a)) h1 ∧ P a h1 := by
  refine am_outi (d := 1) (ls := [some (.inr (.inr 56)), some (.inl x1), some (.inl x2), some (.inl x3), none, none]) rfl ab127 ml127 (Nat.le_of_ble_eq_true rfl) np127 rfl ?_
  refine x_iconst (q127c0 0 rfl) ?_
  refine x_istore (q127c0 1 rfl) ⟨Nat.le_of_ble_eq_true rfl, trivial⟩ ?_
  refine x_iconst (q127c0 2 rfl) ?_
  refine x_istore (q127c0 3 rfl) ⟨Nat.le_of_ble_eq_true rfl, trivial⟩ ?_
  exact H
theorem g_Mo_sumOf_6 {h : am_H} {x1 : Int} {x2 : Int} {x3 : Int} {x4 : Int} {x5 : Int} {P : Int → am_H → Prop} (H : (h 57 1 ≤ x5 → P x4 h) ∧ (x5 < h 57 1 → ((am_ok (3 * x5) ∧ am_ok (190 + 3 * x5) ∧ (0 ≤ 190 + 3 * x5 ∧ 190 + 3 * x5 < 820)) ∧ ((h 57 (190 + 3 * x5) ≠ x1 → ((am_ok (x4 + 0) ∧ am_ok (x5 + 1)) ∧ am_x (am_cd 1) 127 (am_qi P) 0 6 [some (.inr (.inr 56)), some (.inl x1), some (.inl x2), some (.inl x3), some (.inl (x4 + 0)), some (.inl (x5 + 1))] [] h)) ∧ (h 57 (190 + 3 * x5) = x1 → ((am_ok (6 * x5) ∧ am_ok (6 * x5 + x2) ∧ (0 ≤ 6 * x5 + x2 ∧ 6 * x5 + x2 < 120)) ∧ ((h 61 (6 * x5 + x2) ≠ x3 → ((am_ok (x4 + 0) ∧ am_ok (x5 + 1)) ∧ am_x (am_cd 1) 127 (am_qi P) 0 6 [some (.inr (.inr 56)), some (.inl x1), some (.inl x2), some (.inl x3), some (.inl (x4 + 0)), some (.inl (x5 + 1))] [] h)) ∧ (h 61 (6 * x5 + x2) = x3 → (∃ a15 h14, am_cd 1 78 [.inr (.inr 56), .inl x5] h (some (.inl a15)) h14 ∧ ((am_ok (x4 + a15) ∧ am_ok (x5 + 1)) ∧ am_x (am_cd 1) 127 (am_qi P) 0 6 [some (.inr (.inr 56)), some (.inl x1), some (.inl x2), some (.inl x3), some (.inl (x4 + a15)), some (.inl (x5 + 1))] [] h14)))))))))) : am_x (am_cd 1) 127 (am_qi P) 0 6 [some (.inr (.inr 56)), some (.inl x1), some (.inl x2), some (.inl x3), some (.inl x4), some (.inl x5)] [] h := by
  refine x_iload (q127c0 4 rfl) rfl ?_
  refine x_aload_n (q127c0 5 rfl) rfl ?_
  refine x_getr (q127c0 6 rfl) fd56_0 ?_
  refine x_iconst (q127c0 7 rfl) ?_
  refine x_iaload (q127c0 8 rfl) (al57 _) rfl (ag_l rfl rfl (rfl)) (by decide) ?_
  refine x_icmp_ge (q127c0 9 rfl) (fun c1 => ?_) (fun c1 => ?_)
  · replace H := H.1 c1
    refine x_iload (q127c0 40 rfl) rfl ?_
    exact x_ireti (q127c0 41 rfl) zb127 H
  · replace H := H.2 c1
    obtain ⟨⟨s2, s3, s4⟩, H⟩ := H
    refine x_iload (q127c0 10 rfl) rfl ?_
    refine x_aload_n (q127c0 11 rfl) rfl ?_
    refine x_getr (q127c0 12 rfl) fd56_0 ?_
    refine x_sipush (q127c0 13 rfl) ?_
    refine x_iconst (q127c0 14 rfl) ?_
    refine x_iload (q127c0 15 rfl) rfl ?_
    refine x_imul (q127c0 16 rfl) s2 ?_
    refine x_iadd (q127c0 17 rfl) s3 ?_
    refine x_iaload (q127c0 18 rfl) (al57 _) rfl (ag_l rfl rfl (rfl)) s4 ?_
    refine x_iload_n (q127c0 19 rfl) rfl ?_
    refine x_icmp_ne (q127c0 20 rfl) (fun c5 => ?_) (fun c5 => ?_)
    · replace H := H.1 c5
      obtain ⟨⟨s6, s7⟩, H⟩ := H
      refine x_iconst (q127c0 35 rfl) ?_
      refine x_iadd (q127c0 36 rfl) s6 ?_
      refine x_istore (q127c0 37 rfl) ⟨Nat.le_of_ble_eq_true rfl, trivial⟩ ?_
      refine x_iinc (q127c0 38 rfl) rfl ⟨Nat.le_of_ble_eq_true rfl, trivial⟩ s7 ?_
      refine x_goto (q127c0 39 rfl) ?_
      exact H
    · replace H := H.2 c5
      obtain ⟨⟨s8, s9, s10⟩, H⟩ := H
      refine x_aload_n (q127c0 21 rfl) rfl ?_
      refine x_getr (q127c0 22 rfl) fd56_6 ?_
      refine x_bipush (q127c0 23 rfl) ?_
      refine x_iload (q127c0 24 rfl) rfl ?_
      refine x_imul (q127c0 25 rfl) s8 ?_
      refine x_iload_n (q127c0 26 rfl) rfl ?_
      refine x_iadd (q127c0 27 rfl) s9 ?_
      refine x_iaload (q127c0 28 rfl) (al61 _) rfl (ag_l rfl rfl (rfl)) s10 ?_
      refine x_iload_n (q127c0 29 rfl) rfl ?_
      refine x_icmp_ne (q127c0 30 rfl) (fun c11 => ?_) (fun c11 => ?_)
      · replace H := H.1 c11
        obtain ⟨⟨s12, s13⟩, H⟩ := H
        refine x_iconst (q127c0 35 rfl) ?_
        refine x_iadd (q127c0 36 rfl) s12 ?_
        refine x_istore (q127c0 37 rfl) ⟨Nat.le_of_ble_eq_true rfl, trivial⟩ ?_
        refine x_iinc (q127c0 38 rfl) rfl ⟨Nat.le_of_ble_eq_true rfl, trivial⟩ s13 ?_
        refine x_goto (q127c0 39 rfl) ?_
        exact H
      · replace H := H.2 c11
        refine x_aload_n (q127c0 31 rfl) rfl ?_
        refine x_iload (q127c0 32 rfl) rfl ?_
        obtain ⟨a15, h14, w16, H⟩ := H
        refine x_cvi (q127c0 33 rfl) rfl oc56 rfl (Nat.le_of_ble_eq_true rfl) ⟨a15, h14, w16, ?_⟩
        obtain ⟨⟨s17, s18⟩, H⟩ := H
        refine x_goto (q127c0 34 rfl) ?_
        refine x_iadd (q127c0 36 rfl) s17 ?_
        refine x_istore (q127c0 37 rfl) ⟨Nat.le_of_ble_eq_true rfl, trivial⟩ ?_
        refine x_iinc (q127c0 38 rfl) rfl ⟨Nat.le_of_ble_eq_true rfl, trivial⟩ s18 ?_
        refine x_goto (q127c0 39 rfl) ?_
        exact H
theorem e_Mo_feed {h : am_H} {x1 : Int} {y2 : Int64} {P : Int → am_H → Prop} (H : ((1 ≤ x1 ∧ x1 ≤ 8) → ((am_ok (h 56 14 + x1)) ∧ ((h 56 14 + x1 ≤ 80 → am_x (am_cd 1) 128 (am_qi P) 0 38 [some (.inr (.inr 56)), some (.inl x1), some (.inr (.inl y2)), none, some (.inl 0)] [] h) ∧ (80 < h 56 14 + x1 → ((am_ok (h 56 3 + 1)) ∧ P (-100005) (am_up h 56 3 (h 56 3 + 1))))))) ∧ ((¬(1 ≤ x1 ∧ x1 ≤ 8)) → ((am_ok (h 56 3 + 1)) ∧ P (-100001) (am_up h 56 3 (h 56 3 + 1))))) : ∃ a h1, am_cd 2 128 [.inr (.inr 56), .inl x1, .inr (.inl y2)] h (some (.inl a)) h1 ∧ P a h1 := by
  refine am_outi (d := 1) (ls := [some (.inr (.inr 56)), some (.inl x1), some (.inr (.inl y2)), none, none]) rfl ab128 ml128 (Nat.le_of_ble_eq_true rfl) np128 rfl ?_
  refine x_iload_n (q128c0 0 rfl) rfl ?_
  refine x_iconst (q128c0 1 rfl) ?_
  refine x_bipush (q128c0 2 rfl) ?_
  refine x_csi (q128c0 3 rfl) rfl rfl rfl (Nat.le_of_ble_eq_true rfl) (am_lifti (Nat.le_of_ble_eq_true rfl) (e_Mo_in   ?_))
  refine ⟨fun c1 => ?_, fun c1 => ?_⟩
  · replace H := H.1 c1
    obtain ⟨s2, H⟩ := H
    refine x_if_ne_t (q128c0 4 rfl) (by decide) ?_
    refine x_aload_n (q128c0 9 rfl) rfl ?_
    refine x_getf (q128c0 10 rfl) fd56_14 (rfl) ?_
    refine x_iload_n (q128c0 11 rfl) rfl ?_
    refine x_iadd (q128c0 12 rfl) s2 ?_
    refine x_bipush (q128c0 13 rfl) ?_
    refine x_icmp_le (q128c0 14 rfl) (fun c3 => ?_) (fun c3 => ?_)
    · replace H := H.1 c3
      refine x_iconst (q128c0 19 rfl) ?_
      refine x_istore (q128c0 20 rfl) ⟨Nat.le_of_ble_eq_true rfl, trivial⟩ ?_
      exact H
    · replace H := H.2 c3
      refine x_aload_n (q128c0 15 rfl) rfl ?_
      refine x_ldc (q128c0 16 rfl) ?_
      refine x_cvi (q128c0 17 rfl) rfl oc56 rfl (Nat.le_of_ble_eq_true rfl) (am_lifti (Nat.le_of_ble_eq_true rfl) (e_Mo_finds (r1 := h 56 3) (rfl) ?_))
      obtain ⟨s4, H⟩ := H
      refine ⟨s4, ?_⟩
      exact x_ireti (q128c0 18 rfl) zb128 H
  · replace H := H.2 c1
    refine x_if_ne_f (q128c0 4 rfl) (by decide) ?_
    refine x_aload_n (q128c0 5 rfl) rfl ?_
    refine x_ldc (q128c0 6 rfl) ?_
    refine x_cvi (q128c0 7 rfl) rfl oc56 rfl (Nat.le_of_ble_eq_true rfl) (am_lifti (Nat.le_of_ble_eq_true rfl) (e_Mo_finds (r1 := h 56 3) (rfl) ?_))
    obtain ⟨s5, H⟩ := H
    refine ⟨s5, ?_⟩
    exact x_ireti (q128c0 8 rfl) zb128 H
theorem g_Mo_feed_38 {h : am_H} {x1 : Int} {y2 : Int64} {x4 : Int} {P : Int → am_H → Prop} (H : (x1 ≤ x4 → P (h 56 14) h) ∧ (x4 < x1 → ((am_ok (8 * x4) ∧ (0 ≤ h 56 14 ∧ h 56 14 < 80) ∧ am_ok (h 56 14 + 1) ∧ am_ok (x4 + 1)) ∧ am_x (am_cd 1) 128 (am_qi P) 0 38 [some (.inr (.inr 56)), some (.inl x1), some (.inr (.inl y2)), none, some (.inl (x4 + 1))] [] (am_up (am_up h 63 (h 56 14) ((am_lshr y2 (8 * x4)) &&& (Int64.ofInt 255)).toInt32.toInt) 56 14 (h 56 14 + 1))))) : am_x (am_cd 1) 128 (am_qi P) 0 38 [some (.inr (.inr 56)), some (.inl x1), some (.inr (.inl y2)), none, some (.inl x4)] [] h := by
  refine x_iload (q128c0 21 rfl) rfl ?_
  refine x_iload_n (q128c0 22 rfl) rfl ?_
  refine x_icmp_ge (q128c0 23 rfl) (fun c1 => ?_) (fun c1 => ?_)
  · replace H := H.1 c1
    refine x_aload_n (q128c0 45 rfl) rfl ?_
    refine x_getf (q128c0 46 rfl) fd56_14 (rfl) ?_
    exact x_ireti (q128c0 47 rfl) zb128 H
  · replace H := H.2 c1
    obtain ⟨⟨s2, s3, s4, s5⟩, H⟩ := H
    refine x_aload_n (q128c0 24 rfl) rfl ?_
    refine x_getr (q128c0 25 rfl) fd56_8 ?_
    refine x_aload_n (q128c0 26 rfl) rfl ?_
    refine x_getf (q128c0 27 rfl) fd56_14 (rfl) ?_
    refine x_lload_n (q128c0 28 rfl) rfl ?_
    refine x_bipush (q128c0 29 rfl) ?_
    refine x_iload (q128c0 30 rfl) rfl ?_
    refine x_imul (q128c0 31 rfl) s2 ?_
    refine x_lshr (q128c0 32 rfl) ?_
    refine x_ldc2 (q128c0 33 rfl) ?_
    refine x_land (q128c0 34 rfl) ?_
    refine x_l2i (q128c0 35 rfl) ?_
    refine x_iastore (q128c0 36 rfl) (al63 _) rfl (Nat.le_of_ble_eq_true rfl) s3 (j := h 56 14) rfl ?_
    refine x_aload_n (q128c0 37 rfl) rfl ?_
    refine x_dup (q128c0 38 rfl) trivial ?_
    refine x_getf (q128c0 39 rfl) fd56_14 (up_c rfl (rfl)) ?_
    refine x_iconst (q128c0 40 rfl) ?_
    refine x_iadd (q128c0 41 rfl) s4 ?_
    refine x_putf (q128c0 42 rfl) fd56_14 ?_
    refine x_iinc (q128c0 43 rfl) rfl ⟨Nat.le_of_ble_eq_true rfl, trivial⟩ s5 ?_
    refine x_goto (q128c0 44 rfl) ?_
    exact H
theorem e_Mo_takesOne {h : am_H} {x1 : Int} {P : Int → am_H → Prop} (H : (h 56 14 ≤ h 56 15 → (((97 ≤ (-1) ∧ (-1) ≤ 122) → (((-1) - 97 ≠ (-2) → ((am_ok (h 56 15 + 1)) ∧ P ((-1) - 97) (am_up h 56 15 (h 56 15 + 1)))) ∧ ((-1) - 97 = (-2) → ((am_ok (h 56 15 + 0)) ∧ P ((-1) - 97) (am_up h 56 15 (h 56 15 + 0)))))) ∧ ((¬(97 ≤ (-1) ∧ (-1) ≤ 122)) → ((x1 ≠ 0 → ((am_ok (h 56 15 + 0)) ∧ P (-2) (am_up h 56 15 (h 56 15 + 0)))) ∧ (x1 = 0 → ((am_ok (h 56 15 + 0)) ∧ P (-2) (am_up h 56 15 (h 56 15 + 0)))))))) ∧ (h 56 15 < h 56 14 → ((0 ≤ h 56 15 ∧ h 56 15 < 80) ∧ (((97 ≤ h 63 (h 56 15) ∧ h 63 (h 56 15) ≤ 122) → ((am_ok (h 63 (h 56 15) - 97)) ∧ ((h 63 (h 56 15) - 97 ≠ (-2) → ((am_ok (h 56 15 + 1)) ∧ P (h 63 (h 56 15) - 97) (am_up h 56 15 (h 56 15 + 1)))) ∧ (h 63 (h 56 15) - 97 = (-2) → ((am_ok (h 56 15 + 0)) ∧ P (h 63 (h 56 15) - 97) (am_up h 56 15 (h 56 15 + 0))))))) ∧ ((¬(97 ≤ h 63 (h 56 15) ∧ h 63 (h 56 15) ≤ 122)) → ((x1 ≠ 0 → ((h 63 (h 56 15) ≠ 35 → ((h 63 (h 56 15) ≠ 42 → ((am_ok (h 56 15 + 0)) ∧ P (-2) (am_up h 56 15 (h 56 15 + 0)))) ∧ (h 63 (h 56 15) = 42 → ((am_ok (h 56 15 + 1)) ∧ P 27 (am_up h 56 15 (h 56 15 + 1)))))) ∧ (h 63 (h 56 15) = 35 → ((am_ok (h 56 15 + 1)) ∧ P 26 (am_up h 56 15 (h 56 15 + 1)))))) ∧ (x1 = 0 → ((h 63 (h 56 15) ≠ 48 → ((am_ok (h 56 15 + 0)) ∧ P (-2) (am_up h 56 15 (h 56 15 + 0)))) ∧ (h 63 (h 56 15) = 48 → ((am_ok (h 56 15 + 1)) ∧ P (-1) (am_up h 56 15 (h 56 15 + 1)))))))))))) : ∃ a h1, am_cd 2 129 [.inr (.inr 56), .inl x1] h (some (.inl a)) h1 ∧ P a h1 := by
  refine am_outi (d := 1) (ls := [some (.inr (.inr 56)), some (.inl x1), none, none]) rfl ab129 ml129 (Nat.le_of_ble_eq_true rfl) np129 rfl ?_
  refine x_aload_n (q129c0 0 rfl) rfl ?_
  refine x_getf (q129c0 1 rfl) fd56_15 (rfl) ?_
  refine x_aload_n (q129c0 2 rfl) rfl ?_
  refine x_getf (q129c0 3 rfl) fd56_14 (rfl) ?_
  refine x_icmp_ge (q129c0 4 rfl) (fun c1 => ?_) (fun c1 => ?_)
  · replace H := H.1 c1
    refine x_iconst (q129c0 11 rfl) ?_
    refine x_istore_n (q129c0 12 rfl) ⟨Nat.le_of_ble_eq_true rfl, trivial⟩ ?_
    refine x_iload_n (q129c0 13 rfl) rfl ?_
    refine x_bipush (q129c0 14 rfl) ?_
    refine x_bipush (q129c0 15 rfl) ?_
    refine x_csi (q129c0 16 rfl) rfl rfl rfl (Nat.le_of_ble_eq_true rfl) (am_lifti (Nat.le_of_ble_eq_true rfl) (e_Mo_in   ?_))
    refine ⟨fun c2 => ?_, fun c2 => ?_⟩
    · replace H := H.1 c2
      refine x_if_eq_f (q129c0 17 rfl) (by decide) ?_
      refine x_iload_n (q129c0 18 rfl) rfl ?_
      refine x_bipush (q129c0 19 rfl) ?_
      refine x_isub (q129c0 20 rfl) (by decide) ?_
      refine x_goto (q129c0 21 rfl) ?_
      refine x_istore_n (q129c0 44 rfl) ⟨Nat.le_of_ble_eq_true rfl, trivial⟩ ?_
      refine x_aload_n (q129c0 45 rfl) rfl ?_
      refine x_dup (q129c0 46 rfl) trivial ?_
      refine x_getf (q129c0 47 rfl) fd56_15 (rfl) ?_
      refine x_iload_n (q129c0 48 rfl) rfl ?_
      refine x_bipush (q129c0 49 rfl) ?_
      refine x_icmp_ne (q129c0 50 rfl) (fun c3 => ?_) (fun c3 => ?_)
      · replace H := H.1 c3
        obtain ⟨s4, H⟩ := H
        refine x_iconst (q129c0 53 rfl) ?_
        refine x_iadd (q129c0 54 rfl) s4 ?_
        refine x_putf (q129c0 55 rfl) fd56_15 ?_
        refine x_iload_n (q129c0 56 rfl) rfl ?_
        exact x_ireti (q129c0 57 rfl) zb129 H
      · replace H := H.2 c3
        obtain ⟨s5, H⟩ := H
        refine x_iconst (q129c0 51 rfl) ?_
        refine x_goto (q129c0 52 rfl) ?_
        refine x_iadd (q129c0 54 rfl) s5 ?_
        refine x_putf (q129c0 55 rfl) fd56_15 ?_
        refine x_iload_n (q129c0 56 rfl) rfl ?_
        exact x_ireti (q129c0 57 rfl) zb129 H
    · replace H := H.2 c2
      refine x_if_eq_t (q129c0 17 rfl) (by decide) ?_
      refine x_iload_n (q129c0 22 rfl) rfl ?_
      refine x_if_ne (q129c0 23 rfl) (fun c6 => ?_) (fun c6 => ?_)
      · replace H := H.1 c6
        obtain ⟨s7, H⟩ := H
        refine x_iload_n (q129c0 29 rfl) rfl ?_
        refine x_if_eq_f (q129c0 30 rfl) c6 ?_
        refine x_iload_n (q129c0 31 rfl) rfl ?_
        refine x_bipush (q129c0 32 rfl) ?_
        refine x_icmp_ne_t (q129c0 33 rfl) (by decide) ?_
        refine x_iload_n (q129c0 36 rfl) rfl ?_
        refine x_if_eq_f (q129c0 37 rfl) c6 ?_
        refine x_iload_n (q129c0 38 rfl) rfl ?_
        refine x_bipush (q129c0 39 rfl) ?_
        refine x_icmp_ne_t (q129c0 40 rfl) (by decide) ?_
        refine x_bipush (q129c0 43 rfl) ?_
        refine x_istore_n (q129c0 44 rfl) ⟨Nat.le_of_ble_eq_true rfl, trivial⟩ ?_
        refine x_aload_n (q129c0 45 rfl) rfl ?_
        refine x_dup (q129c0 46 rfl) trivial ?_
        refine x_getf (q129c0 47 rfl) fd56_15 (rfl) ?_
        refine x_iload_n (q129c0 48 rfl) rfl ?_
        refine x_bipush (q129c0 49 rfl) ?_
        refine x_icmp_ne_f (q129c0 50 rfl) (by decide) ?_
        refine x_iconst (q129c0 51 rfl) ?_
        refine x_goto (q129c0 52 rfl) ?_
        refine x_iadd (q129c0 54 rfl) s7 ?_
        refine x_putf (q129c0 55 rfl) fd56_15 ?_
        refine x_iload_n (q129c0 56 rfl) rfl ?_
        exact x_ireti (q129c0 57 rfl) zb129 H
      · replace H := H.2 c6
        obtain ⟨s8, H⟩ := H
        refine x_iload_n (q129c0 24 rfl) rfl ?_
        refine x_bipush (q129c0 25 rfl) ?_
        refine x_icmp_ne_t (q129c0 26 rfl) (by decide) ?_
        refine x_iload_n (q129c0 29 rfl) rfl ?_
        refine x_if_eq_t (q129c0 30 rfl) c6 ?_
        refine x_iload_n (q129c0 36 rfl) rfl ?_
        refine x_if_eq_t (q129c0 37 rfl) c6 ?_
        refine x_bipush (q129c0 43 rfl) ?_
        refine x_istore_n (q129c0 44 rfl) ⟨Nat.le_of_ble_eq_true rfl, trivial⟩ ?_
        refine x_aload_n (q129c0 45 rfl) rfl ?_
        refine x_dup (q129c0 46 rfl) trivial ?_
        refine x_getf (q129c0 47 rfl) fd56_15 (rfl) ?_
        refine x_iload_n (q129c0 48 rfl) rfl ?_
        refine x_bipush (q129c0 49 rfl) ?_
        refine x_icmp_ne_f (q129c0 50 rfl) (by decide) ?_
        refine x_iconst (q129c0 51 rfl) ?_
        refine x_goto (q129c0 52 rfl) ?_
        refine x_iadd (q129c0 54 rfl) s8 ?_
        refine x_putf (q129c0 55 rfl) fd56_15 ?_
        refine x_iload_n (q129c0 56 rfl) rfl ?_
        exact x_ireti (q129c0 57 rfl) zb129 H
  · replace H := H.2 c1
    obtain ⟨s9, H⟩ := H
    refine x_aload_n (q129c0 5 rfl) rfl ?_
    refine x_getr (q129c0 6 rfl) fd56_8 ?_
    refine x_aload_n (q129c0 7 rfl) rfl ?_
    refine x_getf (q129c0 8 rfl) fd56_15 (rfl) ?_
    refine x_iaload (q129c0 9 rfl) (al63 _) rfl (ag_l rfl rfl (rfl)) s9 ?_
    refine x_goto (q129c0 10 rfl) ?_
    refine x_istore_n (q129c0 12 rfl) ⟨Nat.le_of_ble_eq_true rfl, trivial⟩ ?_
    refine x_iload_n (q129c0 13 rfl) rfl ?_
    refine x_bipush (q129c0 14 rfl) ?_
    refine x_bipush (q129c0 15 rfl) ?_
    refine x_csi (q129c0 16 rfl) rfl rfl rfl (Nat.le_of_ble_eq_true rfl) (am_lifti (Nat.le_of_ble_eq_true rfl) (e_Mo_in   ?_))
    refine ⟨fun c10 => ?_, fun c10 => ?_⟩
    · replace H := H.1 c10
      obtain ⟨s11, H⟩ := H
      refine x_if_eq_f (q129c0 17 rfl) (by decide) ?_
      refine x_iload_n (q129c0 18 rfl) rfl ?_
      refine x_bipush (q129c0 19 rfl) ?_
      refine x_isub (q129c0 20 rfl) s11 ?_
      refine x_goto (q129c0 21 rfl) ?_
      refine x_istore_n (q129c0 44 rfl) ⟨Nat.le_of_ble_eq_true rfl, trivial⟩ ?_
      refine x_aload_n (q129c0 45 rfl) rfl ?_
      refine x_dup (q129c0 46 rfl) trivial ?_
      refine x_getf (q129c0 47 rfl) fd56_15 (rfl) ?_
      refine x_iload_n (q129c0 48 rfl) rfl ?_
      refine x_bipush (q129c0 49 rfl) ?_
      refine x_icmp_ne (q129c0 50 rfl) (fun c12 => ?_) (fun c12 => ?_)
      · replace H := H.1 c12
        obtain ⟨s13, H⟩ := H
        refine x_iconst (q129c0 53 rfl) ?_
        refine x_iadd (q129c0 54 rfl) s13 ?_
        refine x_putf (q129c0 55 rfl) fd56_15 ?_
        refine x_iload_n (q129c0 56 rfl) rfl ?_
        exact x_ireti (q129c0 57 rfl) zb129 H
      · replace H := H.2 c12
        obtain ⟨s14, H⟩ := H
        refine x_iconst (q129c0 51 rfl) ?_
        refine x_goto (q129c0 52 rfl) ?_
        refine x_iadd (q129c0 54 rfl) s14 ?_
        refine x_putf (q129c0 55 rfl) fd56_15 ?_
        refine x_iload_n (q129c0 56 rfl) rfl ?_
        exact x_ireti (q129c0 57 rfl) zb129 H
    · replace H := H.2 c10
      refine x_if_eq_t (q129c0 17 rfl) (by decide) ?_
      refine x_iload_n (q129c0 22 rfl) rfl ?_
      refine x_if_ne (q129c0 23 rfl) (fun c15 => ?_) (fun c15 => ?_)
      · replace H := H.1 c15
        refine x_iload_n (q129c0 29 rfl) rfl ?_
        refine x_if_eq_f (q129c0 30 rfl) c15 ?_
        refine x_iload_n (q129c0 31 rfl) rfl ?_
        refine x_bipush (q129c0 32 rfl) ?_
        refine x_icmp_ne (q129c0 33 rfl) (fun c16 => ?_) (fun c16 => ?_)
        · replace H := H.1 c16
          refine x_iload_n (q129c0 36 rfl) rfl ?_
          refine x_if_eq_f (q129c0 37 rfl) c15 ?_
          refine x_iload_n (q129c0 38 rfl) rfl ?_
          refine x_bipush (q129c0 39 rfl) ?_
          refine x_icmp_ne (q129c0 40 rfl) (fun c17 => ?_) (fun c17 => ?_)
          · replace H := H.1 c17
            obtain ⟨s18, H⟩ := H
            refine x_bipush (q129c0 43 rfl) ?_
            refine x_istore_n (q129c0 44 rfl) ⟨Nat.le_of_ble_eq_true rfl, trivial⟩ ?_
            refine x_aload_n (q129c0 45 rfl) rfl ?_
            refine x_dup (q129c0 46 rfl) trivial ?_
            refine x_getf (q129c0 47 rfl) fd56_15 (rfl) ?_
            refine x_iload_n (q129c0 48 rfl) rfl ?_
            refine x_bipush (q129c0 49 rfl) ?_
            refine x_icmp_ne_f (q129c0 50 rfl) (by decide) ?_
            refine x_iconst (q129c0 51 rfl) ?_
            refine x_goto (q129c0 52 rfl) ?_
            refine x_iadd (q129c0 54 rfl) s18 ?_
            refine x_putf (q129c0 55 rfl) fd56_15 ?_
            refine x_iload_n (q129c0 56 rfl) rfl ?_
            exact x_ireti (q129c0 57 rfl) zb129 H
          · replace H := H.2 c17
            obtain ⟨s19, H⟩ := H
            refine x_bipush (q129c0 41 rfl) ?_
            refine x_goto (q129c0 42 rfl) ?_
            refine x_istore_n (q129c0 44 rfl) ⟨Nat.le_of_ble_eq_true rfl, trivial⟩ ?_
            refine x_aload_n (q129c0 45 rfl) rfl ?_
            refine x_dup (q129c0 46 rfl) trivial ?_
            refine x_getf (q129c0 47 rfl) fd56_15 (rfl) ?_
            refine x_iload_n (q129c0 48 rfl) rfl ?_
            refine x_bipush (q129c0 49 rfl) ?_
            refine x_icmp_ne_t (q129c0 50 rfl) (by decide) ?_
            refine x_iconst (q129c0 53 rfl) ?_
            refine x_iadd (q129c0 54 rfl) s19 ?_
            refine x_putf (q129c0 55 rfl) fd56_15 ?_
            refine x_iload_n (q129c0 56 rfl) rfl ?_
            exact x_ireti (q129c0 57 rfl) zb129 H
        · replace H := H.2 c16
          obtain ⟨s20, H⟩ := H
          refine x_bipush (q129c0 34 rfl) ?_
          refine x_goto (q129c0 35 rfl) ?_
          refine x_istore_n (q129c0 44 rfl) ⟨Nat.le_of_ble_eq_true rfl, trivial⟩ ?_
          refine x_aload_n (q129c0 45 rfl) rfl ?_
          refine x_dup (q129c0 46 rfl) trivial ?_
          refine x_getf (q129c0 47 rfl) fd56_15 (rfl) ?_
          refine x_iload_n (q129c0 48 rfl) rfl ?_
          refine x_bipush (q129c0 49 rfl) ?_
          refine x_icmp_ne_t (q129c0 50 rfl) (by decide) ?_
          refine x_iconst (q129c0 53 rfl) ?_
          refine x_iadd (q129c0 54 rfl) s20 ?_
          refine x_putf (q129c0 55 rfl) fd56_15 ?_
          refine x_iload_n (q129c0 56 rfl) rfl ?_
          exact x_ireti (q129c0 57 rfl) zb129 H
      · replace H := H.2 c15
        refine x_iload_n (q129c0 24 rfl) rfl ?_
        refine x_bipush (q129c0 25 rfl) ?_
        refine x_icmp_ne (q129c0 26 rfl) (fun c21 => ?_) (fun c21 => ?_)
        · replace H := H.1 c21
          obtain ⟨s22, H⟩ := H
          refine x_iload_n (q129c0 29 rfl) rfl ?_
          refine x_if_eq_t (q129c0 30 rfl) c15 ?_
          refine x_iload_n (q129c0 36 rfl) rfl ?_
          refine x_if_eq_t (q129c0 37 rfl) c15 ?_
          refine x_bipush (q129c0 43 rfl) ?_
          refine x_istore_n (q129c0 44 rfl) ⟨Nat.le_of_ble_eq_true rfl, trivial⟩ ?_
          refine x_aload_n (q129c0 45 rfl) rfl ?_
          refine x_dup (q129c0 46 rfl) trivial ?_
          refine x_getf (q129c0 47 rfl) fd56_15 (rfl) ?_
          refine x_iload_n (q129c0 48 rfl) rfl ?_
          refine x_bipush (q129c0 49 rfl) ?_
          refine x_icmp_ne_f (q129c0 50 rfl) (by decide) ?_
          refine x_iconst (q129c0 51 rfl) ?_
          refine x_goto (q129c0 52 rfl) ?_
          refine x_iadd (q129c0 54 rfl) s22 ?_
          refine x_putf (q129c0 55 rfl) fd56_15 ?_
          refine x_iload_n (q129c0 56 rfl) rfl ?_
          exact x_ireti (q129c0 57 rfl) zb129 H
        · replace H := H.2 c21
          obtain ⟨s23, H⟩ := H
          refine x_iconst (q129c0 27 rfl) ?_
          refine x_goto (q129c0 28 rfl) ?_
          refine x_istore_n (q129c0 44 rfl) ⟨Nat.le_of_ble_eq_true rfl, trivial⟩ ?_
          refine x_aload_n (q129c0 45 rfl) rfl ?_
          refine x_dup (q129c0 46 rfl) trivial ?_
          refine x_getf (q129c0 47 rfl) fd56_15 (rfl) ?_
          refine x_iload_n (q129c0 48 rfl) rfl ?_
          refine x_bipush (q129c0 49 rfl) ?_
          refine x_icmp_ne_t (q129c0 50 rfl) (by decide) ?_
          refine x_iconst (q129c0 53 rfl) ?_
          refine x_iadd (q129c0 54 rfl) s23 ?_
          refine x_putf (q129c0 55 rfl) fd56_15 ?_
          refine x_iload_n (q129c0 56 rfl) rfl ?_
          exact x_ireti (q129c0 57 rfl) zb129 H
theorem e_Mo_changes {h : am_H} {x1 : Int} {P : Int → am_H → Prop} (H : ((0 ≤ x1 ∧ x1 ≤ 3) → ((0 ≤ x1 ∧ x1 < 4) ∧ P (h 64 x1) h)) ∧ ((¬(0 ≤ x1 ∧ x1 ≤ 3)) → ((am_ok (h 56 3 + 1)) ∧ P (-100001) (am_up h 56 3 (h 56 3 + 1))))) : ∃ a h1, am_cd 2 130 [.inr (.inr 56), .inl x1] h (some (.inl a)) h1 ∧ P a h1 := by
  refine am_outi (d := 1) (ls := [some (.inr (.inr 56)), some (.inl x1)]) rfl ab130 ml130 (Nat.le_of_ble_eq_true rfl) np130 rfl ?_
  refine x_iload_n (q130c0 0 rfl) rfl ?_
  refine x_iconst (q130c0 1 rfl) ?_
  refine x_iconst (q130c0 2 rfl) ?_
  refine x_csi (q130c0 3 rfl) rfl rfl rfl (Nat.le_of_ble_eq_true rfl) (am_lifti (Nat.le_of_ble_eq_true rfl) (e_Mo_in   ?_))
  refine ⟨fun c1 => ?_, fun c1 => ?_⟩
  · replace H := H.1 c1
    obtain ⟨s2, H⟩ := H
    refine x_if_eq_f (q130c0 4 rfl) (by decide) ?_
    refine x_aload_n (q130c0 5 rfl) rfl ?_
    refine x_getr (q130c0 6 rfl) fd56_9 ?_
    refine x_iload_n (q130c0 7 rfl) rfl ?_
    refine x_iaload (q130c0 8 rfl) (al64 _) rfl (ag_l rfl rfl (rfl)) s2 ?_
    refine x_goto (q130c0 9 rfl) ?_
    exact x_ireti (q130c0 13 rfl) zb130 H
  · replace H := H.2 c1
    refine x_if_eq_t (q130c0 4 rfl) (by decide) ?_
    refine x_aload_n (q130c0 10 rfl) rfl ?_
    refine x_ldc (q130c0 11 rfl) ?_
    refine x_cvi (q130c0 12 rfl) rfl oc56 rfl (Nat.le_of_ble_eq_true rfl) (am_lifti (Nat.le_of_ble_eq_true rfl) (e_Mo_finds (r1 := h 56 3) (rfl) ?_))
    obtain ⟨s3, H⟩ := H
    refine ⟨s3, ?_⟩
    exact x_ireti (q130c0 13 rfl) zb130 H
theorem e_Mo_stands {h : am_H} {x1 : Int} {x2 : Int} {P : Int → am_H → Prop} (H : (x1 = 27 → P 1 h) ∧ (x1 ≠ 27 → ((am_ok (h 56 16 - 1)) ∧ (((0 ≤ x2 ∧ x2 ≤ h 56 16 - 1) → ((0 ≤ x2 ∧ x2 < 8) ∧ ((h 67 x2 ≠ x1 → P 0 h) ∧ (h 67 x2 = x1 → P 1 h)))) ∧ ((¬(0 ≤ x2 ∧ x2 ≤ h 56 16 - 1)) → ((x1 ≠ 26 → P 0 h) ∧ (x1 = 26 → P 1 h))))))) : ∃ a h1, am_cd 2 131 [.inr (.inr 56), .inl x1, .inl x2] h (some (.inl a)) h1 ∧ P a h1 := by
  refine am_outi (d := 1) (ls := [some (.inr (.inr 56)), some (.inl x1), some (.inl x2)]) rfl ab131 ml131 (Nat.le_of_ble_eq_true rfl) np131 rfl ?_
  refine x_iload_n (q131c0 0 rfl) rfl ?_
  refine x_bipush (q131c0 1 rfl) ?_
  refine x_icmp_eq (q131c0 2 rfl) (fun c1 => ?_) (fun c1 => ?_)
  · replace H := H.1 c1
    refine x_iconst (q131c0 21 rfl) ?_
    refine x_goto (q131c0 22 rfl) ?_
    exact x_iretz (q131c0 24 rfl) (.inr rfl) H
  · replace H := H.2 c1
    obtain ⟨s2, H⟩ := H
    refine x_iload_n (q131c0 3 rfl) rfl ?_
    refine x_iconst (q131c0 4 rfl) ?_
    refine x_aload_n (q131c0 5 rfl) rfl ?_
    refine x_getf (q131c0 6 rfl) fd56_16 (rfl) ?_
    refine x_iconst (q131c0 7 rfl) ?_
    refine x_isub (q131c0 8 rfl) s2 ?_
    refine x_csi (q131c0 9 rfl) rfl rfl rfl (Nat.le_of_ble_eq_true rfl) (am_lifti (Nat.le_of_ble_eq_true rfl) (e_Mo_in   ?_))
    refine ⟨fun c3 => ?_, fun c3 => ?_⟩
    · replace H := H.1 c3
      obtain ⟨s4, H⟩ := H
      refine x_if_eq_f (q131c0 10 rfl) (by decide) ?_
      refine x_aload_n (q131c0 11 rfl) rfl ?_
      refine x_getr (q131c0 12 rfl) fd56_12 ?_
      refine x_iload_n (q131c0 13 rfl) rfl ?_
      refine x_iaload (q131c0 14 rfl) (al67 _) rfl (ag_l rfl rfl (rfl)) s4 ?_
      refine x_iload_n (q131c0 15 rfl) rfl ?_
      refine x_icmp_ne (q131c0 16 rfl) (fun c5 => ?_) (fun c5 => ?_)
      · replace H := H.1 c5
        refine x_iconst (q131c0 23 rfl) ?_
        exact x_iretz (q131c0 24 rfl) (.inl rfl) H
      · replace H := H.2 c5
        refine x_goto (q131c0 17 rfl) ?_
        refine x_iconst (q131c0 21 rfl) ?_
        refine x_goto (q131c0 22 rfl) ?_
        exact x_iretz (q131c0 24 rfl) (.inr rfl) H
    · replace H := H.2 c3
      refine x_if_eq_t (q131c0 10 rfl) (by decide) ?_
      refine x_iload_n (q131c0 18 rfl) rfl ?_
      refine x_bipush (q131c0 19 rfl) ?_
      refine x_icmp_ne (q131c0 20 rfl) (fun c6 => ?_) (fun c6 => ?_)
      · replace H := H.1 c6
        refine x_iconst (q131c0 23 rfl) ?_
        exact x_iretz (q131c0 24 rfl) (.inl rfl) H
      · replace H := H.2 c6
        refine x_iconst (q131c0 21 rfl) ?_
        refine x_goto (q131c0 22 rfl) ?_
        exact x_iretz (q131c0 24 rfl) (.inr rfl) H
theorem e_Mo_isThat {h : am_H} {x1 : Int} {P : Int → am_H → Prop} (H : (x1 < 0 → am_x (am_cd 1) 132 (am_qi P) 0 24 [some (.inr (.inr 56)), some (.inl x1), some (.inl 0), some (.inl 0)] [] h) ∧ (0 ≤ x1 → ((am_ok (9 * x1) ∧ am_ok (250 + 9 * x1) ∧ (0 ≤ 250 + 9 * x1 ∧ 250 + 9 * x1 < 820)) ∧ ((h 57 (250 + 9 * x1) ≠ h 56 16 → am_x (am_cd 1) 132 (am_qi P) 0 24 [some (.inr (.inr 56)), some (.inl x1), some (.inl 0), some (.inl 0)] [] h) ∧ (h 57 (250 + 9 * x1) = h 56 16 → am_x (am_cd 1) 132 (am_qi P) 0 24 [some (.inr (.inr 56)), some (.inl x1), some (.inl 1), some (.inl 0)] [] h))))) : ∃ a h1, am_cd 2 132 [.inr (.inr 56), .inl x1] h (some (.inl a)) h1 ∧ P a h1 := by
  refine am_outi (d := 1) (ls := [some (.inr (.inr 56)), some (.inl x1), none, none]) rfl ab132 ml132 (Nat.le_of_ble_eq_true rfl) np132 rfl ?_
  refine x_iload_n (q132c0 0 rfl) rfl ?_
  refine x_if_lt (q132c0 1 rfl) (fun c1 => ?_) (fun c1 => ?_)
  · replace H := H.1 c1
    refine x_iconst (q132c0 10 rfl) ?_
    refine x_istore_n (q132c0 11 rfl) ⟨Nat.le_of_ble_eq_true rfl, trivial⟩ ?_
    refine x_iconst (q132c0 12 rfl) ?_
    refine x_istore_n (q132c0 13 rfl) ⟨Nat.le_of_ble_eq_true rfl, trivial⟩ ?_
    exact H
  · replace H := H.2 c1
    refine x_aload_n (q132c0 2 rfl) rfl ?_
    refine x_iload_n (q132c0 3 rfl) rfl ?_
    refine x_cvi (q132c0 4 rfl) rfl oc56 rfl (Nat.le_of_ble_eq_true rfl) (am_lifti (Nat.le_of_ble_eq_true rfl) (e_Mo_sizeOfForm (r1 := h 57 (250 + 9 * x1)) (rfl) ?_))
    obtain ⟨⟨s2, s3, s4⟩, H⟩ := H
    refine ⟨⟨s2, s3, s4⟩, ?_⟩
    refine x_aload_n (q132c0 5 rfl) rfl ?_
    refine x_getf (q132c0 6 rfl) fd56_16 (rfl) ?_
    refine x_icmp_ne (q132c0 7 rfl) (fun c5 => ?_) (fun c5 => ?_)
    · replace H := H.1 c5
      refine x_iconst (q132c0 10 rfl) ?_
      refine x_istore_n (q132c0 11 rfl) ⟨Nat.le_of_ble_eq_true rfl, trivial⟩ ?_
      refine x_iconst (q132c0 12 rfl) ?_
      refine x_istore_n (q132c0 13 rfl) ⟨Nat.le_of_ble_eq_true rfl, trivial⟩ ?_
      exact H
    · replace H := H.2 c5
      refine x_iconst (q132c0 8 rfl) ?_
      refine x_goto (q132c0 9 rfl) ?_
      refine x_istore_n (q132c0 11 rfl) ⟨Nat.le_of_ble_eq_true rfl, trivial⟩ ?_
      refine x_iconst (q132c0 12 rfl) ?_
      refine x_istore_n (q132c0 13 rfl) ⟨Nat.le_of_ble_eq_true rfl, trivial⟩ ?_
      exact H
theorem g_Mo_isThat_24 {h : am_H} {x1 : Int} {x2 : Int} {x3 : Int} {P : Int → am_H → Prop} (H : (h 56 16 ≤ x3 → ((x2 = 0 ∨ x2 = 1) ∧ P x2 h)) ∧ (x3 < h 56 16 → ((x2 = 0 → ((x2 = 0 ∨ x2 = 1) ∧ P x2 h)) ∧ (x2 ≠ 0 → ((am_ok (9 * x1) ∧ am_ok (250 + 9 * x1) ∧ am_ok (250 + 9 * x1 + 1) ∧ am_ok (250 + 9 * x1 + 1 + x3) ∧ (0 ≤ 250 + 9 * x1 + 1 + x3 ∧ 250 + 9 * x1 + 1 + x3 < 820)) ∧ ((0 ≤ x3 ∧ x3 < 8) ∧ ((h 57 (251 + 9 * x1 + x3) ≠ h 67 x3 → ((am_ok (x3 + 1)) ∧ am_x (am_cd 1) 132 (am_qi P) 0 24 [some (.inr (.inr 56)), some (.inl x1), some (.inl 0), some (.inl (x3 + 1))] [] h)) ∧ (h 57 (251 + 9 * x1 + x3) = h 67 x3 → ((am_ok (x3 + 1)) ∧ am_x (am_cd 1) 132 (am_qi P) 0 24 [some (.inr (.inr 56)), some (.inl x1), some (.inl 1), some (.inl (x3 + 1))] [] h))))))))) : am_x (am_cd 1) 132 (am_qi P) 0 24 [some (.inr (.inr 56)), some (.inl x1), some (.inl x2), some (.inl x3)] [] h := by
  refine x_iload_n (q132c0 14 rfl) rfl ?_
  refine x_aload_n (q132c0 15 rfl) rfl ?_
  refine x_getf (q132c0 16 rfl) fd56_16 (rfl) ?_
  refine x_icmp_ge (q132c0 17 rfl) (fun c1 => ?_) (fun c1 => ?_)
  · replace H := H.1 c1
    obtain ⟨s2, H⟩ := H
    refine x_iload_n (q132c0 35 rfl) rfl ?_
    exact x_iretz (q132c0 36 rfl) s2 H
  · replace H := H.2 c1
    refine x_iload_n (q132c0 18 rfl) rfl ?_
    refine x_if_eq (q132c0 19 rfl) (fun c3 => ?_) (fun c3 => ?_)
    · replace H := H.1 c3
      obtain ⟨s4, H⟩ := H
      refine x_iload_n (q132c0 35 rfl) rfl ?_
      exact x_iretz (q132c0 36 rfl) s4 H
    · replace H := H.2 c3
      refine x_aload_n (q132c0 20 rfl) rfl ?_
      refine x_iload_n (q132c0 21 rfl) rfl ?_
      refine x_iload_n (q132c0 22 rfl) rfl ?_
      refine x_cvi (q132c0 23 rfl) rfl oc56 rfl (Nat.le_of_ble_eq_true rfl) (am_lifti (Nat.le_of_ble_eq_true rfl) (e_Mo_soundOf (r1 := h 57 (251 + 9 * x1 + x3)) (rfl) ?_))
      obtain ⟨⟨s5, s6, s7, s8, s9⟩, H⟩ := H
      refine ⟨⟨s5, s6, s7, s8, s9⟩, ?_⟩
      obtain ⟨s10, H⟩ := H
      refine x_aload_n (q132c0 24 rfl) rfl ?_
      refine x_getr (q132c0 25 rfl) fd56_12 ?_
      refine x_iload_n (q132c0 26 rfl) rfl ?_
      refine x_iaload (q132c0 27 rfl) (al67 _) rfl (ag_l rfl rfl (rfl)) s10 ?_
      refine x_icmp_ne (q132c0 28 rfl) (fun c11 => ?_) (fun c11 => ?_)
      · replace H := H.1 c11
        obtain ⟨s12, H⟩ := H
        refine x_iconst (q132c0 31 rfl) ?_
        refine x_istore_n (q132c0 32 rfl) ⟨Nat.le_of_ble_eq_true rfl, trivial⟩ ?_
        refine x_iinc (q132c0 33 rfl) rfl ⟨Nat.le_of_ble_eq_true rfl, trivial⟩ s12 ?_
        refine x_goto (q132c0 34 rfl) ?_
        exact H
      · replace H := H.2 c11
        obtain ⟨s13, H⟩ := H
        refine x_iconst (q132c0 29 rfl) ?_
        refine x_goto (q132c0 30 rfl) ?_
        refine x_istore_n (q132c0 32 rfl) ⟨Nat.le_of_ble_eq_true rfl, trivial⟩ ?_
        refine x_iinc (q132c0 33 rfl) rfl ⟨Nat.le_of_ble_eq_true rfl, trivial⟩ s13 ?_
        refine x_goto (q132c0 34 rfl) ?_
        exact H
theorem e_Mo_liesBy {h : am_H} {x1 : Int} {x2 : Int} {x3 : Int} {x4 : Int} {x5 : Int} {x6 : Int} {P : Int → am_H → Prop} (H : am_x (am_cd 1) 133 (am_qi P) 0 6 [some (.inr (.inr 56)), some (.inl x1), some (.inl x2), some (.inl x3), some (.inl x4), some (.inl x5), some (.inl x6), some (.inl 0), some (.inl 0), none, none] [] h) : ∃ a h1, am_cd 2 133 [.inr (.inr 56), .inl x1, .inl x2, .inl x3, .inl x4, .inl x5, .inl x6] h (some (.inl a)) h1 ∧ P a h1 := by
  refine am_outi (d := 1) (ls := [some (.inr (.inr 56)), some (.inl x1), some (.inl x2), some (.inl x3), some (.inl x4), some (.inl x5), some (.inl x6), none, none, none, none]) rfl ab133 ml133 (Nat.le_of_ble_eq_true rfl) np133 rfl ?_
  refine x_iconst (q133c0 0 rfl) ?_
  refine x_istore (q133c0 1 rfl) ⟨Nat.le_of_ble_eq_true rfl, trivial⟩ ?_
  refine x_iconst (q133c0 2 rfl) ?_
  refine x_istore (q133c0 3 rfl) ⟨Nat.le_of_ble_eq_true rfl, trivial⟩ ?_
  exact H
theorem g_Mo_liesBy_6 {h : am_H} {x1 : Int} {x2 : Int} {x3 : Int} {x4 : Int} {x5 : Int} {x6 : Int} {x7 : Int} {x8 : Int} {P : Int → am_H → Prop} (H : (h 57 0 ≤ x8 → P x7 h) ∧ (x8 < h 57 0 → ((am_ok (6 * x8) ∧ am_ok (6 * x8 + x1) ∧ (0 ≤ 6 * x8 + x1 ∧ 6 * x8 + x1 < 72) ∧ am_ok (3 * x8) ∧ am_ok (10 + 3 * x8) ∧ (0 ≤ 10 + 3 * x8 ∧ 10 + 3 * x8 < 820) ∧ am_ok (10 + 3 * x8 + 1) ∧ (0 ≤ 10 + 3 * x8 + 1 ∧ 10 + 3 * x8 + 1 < 820)) ∧ (∃ a11 h10, am_cd 1 82 [.inl x4, .inl (h 57 (10 + 3 * x8)), .inl (h 57 (11 + 3 * x8))] h (some (.inl a11)) h10 ∧ ((x5 ≤ a11 → ((1 ≠ x6 → ((h 62 (6 * x8 + x1) ≠ x2 → ((am_ok (x7 + 0) ∧ am_ok (x8 + 1)) ∧ am_x (am_cd 1) 133 (am_qi P) 0 6 [some (.inr (.inr 56)), some (.inl x1), some (.inl x2), some (.inl x3), some (.inl x4), some (.inl x5), some (.inl x6), some (.inl (x7 + 0)), some (.inl (x8 + 1)), none, none] [] h10)) ∧ (h 62 (6 * x8 + x1) = x2 → ((am_ok (10 + 3 * x8 + 2) ∧ (0 ≤ 10 + 3 * x8 + 2 ∧ 10 + 3 * x8 + 2 < 820)) ∧ ((am_ok (x7 + h10 57 (12 + 3 * x8)) ∧ am_ok (x8 + 1)) ∧ am_x (am_cd 1) 133 (am_qi P) 0 6 [some (.inr (.inr 56)), some (.inl x1), some (.inl x2), some (.inl x3), some (.inl x4), some (.inl x5), some (.inl x6), some (.inl (x7 + h10 57 (12 + 3 * x8))), some (.inl (x8 + 1)), none, none] [] h10))))) ∧ (1 = x6 → ((h 62 (6 * x8 + x1) ≠ x3 → ((am_ok (x7 + 0) ∧ am_ok (x8 + 1)) ∧ am_x (am_cd 1) 133 (am_qi P) 0 6 [some (.inr (.inr 56)), some (.inl x1), some (.inl x2), some (.inl x3), some (.inl x4), some (.inl x5), some (.inl x6), some (.inl (x7 + 0)), some (.inl (x8 + 1)), none, none] [] h10)) ∧ (h 62 (6 * x8 + x1) = x3 → ((am_ok (10 + 3 * x8 + 2) ∧ (0 ≤ 10 + 3 * x8 + 2 ∧ 10 + 3 * x8 + 2 < 820)) ∧ ((am_ok (x7 + h10 57 (12 + 3 * x8)) ∧ am_ok (x8 + 1)) ∧ am_x (am_cd 1) 133 (am_qi P) 0 6 [some (.inr (.inr 56)), some (.inl x1), some (.inl x2), some (.inl x3), some (.inl x4), some (.inl x5), some (.inl x6), some (.inl (x7 + h10 57 (12 + 3 * x8))), some (.inl (x8 + 1)), none, none] [] h10))))))) ∧ (a11 < x5 → ((0 ≠ x6 → ((h 62 (6 * x8 + x1) ≠ x2 → ((am_ok (x7 + 0) ∧ am_ok (x8 + 1)) ∧ am_x (am_cd 1) 133 (am_qi P) 0 6 [some (.inr (.inr 56)), some (.inl x1), some (.inl x2), some (.inl x3), some (.inl x4), some (.inl x5), some (.inl x6), some (.inl (x7 + 0)), some (.inl (x8 + 1)), none, none] [] h10)) ∧ (h 62 (6 * x8 + x1) = x2 → ((am_ok (10 + 3 * x8 + 2) ∧ (0 ≤ 10 + 3 * x8 + 2 ∧ 10 + 3 * x8 + 2 < 820)) ∧ ((am_ok (x7 + h10 57 (12 + 3 * x8)) ∧ am_ok (x8 + 1)) ∧ am_x (am_cd 1) 133 (am_qi P) 0 6 [some (.inr (.inr 56)), some (.inl x1), some (.inl x2), some (.inl x3), some (.inl x4), some (.inl x5), some (.inl x6), some (.inl (x7 + h10 57 (12 + 3 * x8))), some (.inl (x8 + 1)), none, none] [] h10))))) ∧ (0 = x6 → ((h 62 (6 * x8 + x1) ≠ x3 → ((am_ok (x7 + 0) ∧ am_ok (x8 + 1)) ∧ am_x (am_cd 1) 133 (am_qi P) 0 6 [some (.inr (.inr 56)), some (.inl x1), some (.inl x2), some (.inl x3), some (.inl x4), some (.inl x5), some (.inl x6), some (.inl (x7 + 0)), some (.inl (x8 + 1)), none, none] [] h10)) ∧ (h 62 (6 * x8 + x1) = x3 → ((am_ok (10 + 3 * x8 + 2) ∧ (0 ≤ 10 + 3 * x8 + 2 ∧ 10 + 3 * x8 + 2 < 820)) ∧ ((am_ok (x7 + h10 57 (12 + 3 * x8)) ∧ am_ok (x8 + 1)) ∧ am_x (am_cd 1) 133 (am_qi P) 0 6 [some (.inr (.inr 56)), some (.inl x1), some (.inl x2), some (.inl x3), some (.inl x4), some (.inl x5), some (.inl x6), some (.inl (x7 + h10 57 (12 + 3 * x8))), some (.inl (x8 + 1)), none, none] [] h10)))))))))))) : am_x (am_cd 1) 133 (am_qi P) 0 6 [some (.inr (.inr 56)), some (.inl x1), some (.inl x2), some (.inl x3), some (.inl x4), some (.inl x5), some (.inl x6), some (.inl x7), some (.inl x8), none, none] [] h := by
  refine x_iload (q133c0 4 rfl) rfl ?_
  refine x_aload_n (q133c0 5 rfl) rfl ?_
  refine x_getr (q133c0 6 rfl) fd56_0 ?_
  refine x_iconst (q133c0 7 rfl) ?_
  refine x_iaload (q133c0 8 rfl) (al57 _) rfl (ag_l rfl rfl (rfl)) (by decide) ?_
  refine x_icmp_ge (q133c0 9 rfl) (fun c1 => ?_) (fun c1 => ?_)
  · replace H := H.1 c1
    refine x_iload (q133c1 3 rfl) rfl ?_
    exact x_ireti (q133c1 4 rfl) zb133 H
  · replace H := H.2 c1
    obtain ⟨⟨s2, s3, s4, s5, s6, s7, s8, s9⟩, H⟩ := H
    refine x_aload_n (q133c0 10 rfl) rfl ?_
    refine x_getr (q133c0 11 rfl) fd56_7 ?_
    refine x_bipush (q133c0 12 rfl) ?_
    refine x_iload (q133c0 13 rfl) rfl ?_
    refine x_imul (q133c0 14 rfl) s2 ?_
    refine x_iload_n (q133c0 15 rfl) rfl ?_
    refine x_iadd (q133c0 16 rfl) s3 ?_
    refine x_iaload (q133c0 17 rfl) (al62 _) rfl (ag_l rfl rfl (rfl)) s4 ?_
    refine x_istore (q133c0 18 rfl) ⟨Nat.le_of_ble_eq_true rfl, trivial⟩ ?_
    refine x_iload (q133c0 19 rfl) rfl ?_
    refine x_aload_n (q133c0 20 rfl) rfl ?_
    refine x_getr (q133c0 21 rfl) fd56_0 ?_
    refine x_bipush (q133c0 22 rfl) ?_
    refine x_iconst (q133c0 23 rfl) ?_
    refine x_iload (q133c0 24 rfl) rfl ?_
    refine x_imul (q133c0 25 rfl) s5 ?_
    refine x_iadd (q133c0 26 rfl) s6 ?_
    refine x_iaload (q133c0 27 rfl) (al57 _) rfl (ag_l rfl rfl (rfl)) s7 ?_
    refine x_aload_n (q133c0 28 rfl) rfl ?_
    refine x_getr (q133c0 29 rfl) fd56_0 ?_
    refine x_bipush (q133c0 30 rfl) ?_
    refine x_iconst (q133c0 31 rfl) ?_
    refine x_iload (q133c0 32 rfl) rfl ?_
    refine x_imul (q133c0 33 rfl) s5 ?_
    refine x_iadd (q133c0 34 rfl) s6 ?_
    refine x_iconst (q133c0 35 rfl) ?_
    refine x_iadd (q133c0 36 rfl) s8 ?_
    refine x_iaload (q133c0 37 rfl) (al57 _) rfl (ag_l (j1 := 11 + 3 * x8) rfl (by omega) (rfl)) s9 ?_
    obtain ⟨a11, h10, w12, H⟩ := H
    refine x_csi (q133c0 38 rfl) rfl rfl rfl (Nat.le_of_ble_eq_true rfl) ⟨a11, h10, w12, ?_⟩
    refine x_iload (q133c0 39 rfl) rfl ?_
    refine x_icmp_ge (q133c0 40 rfl) (fun c13 => ?_) (fun c13 => ?_)
    · replace H := H.1 c13
      refine x_iconst (q133c0 43 rfl) ?_
      refine x_istore (q133c0 44 rfl) ⟨Nat.le_of_ble_eq_true rfl, trivial⟩ ?_
      refine x_iload (q133c0 45 rfl) rfl ?_
      refine x_iload (q133c0 46 rfl) rfl ?_
      refine x_iload (q133c0 47 rfl) rfl ?_
      refine x_iload (q133c0 48 rfl) rfl ?_
      refine x_icmp_ne (q133c0 49 rfl) (fun c14 => ?_) (fun c14 => ?_)
      · replace H := H.1 c14
        refine x_iload_n (q133c0 52 rfl) rfl ?_
        refine x_icmp_ne (q133c0 53 rfl) (fun c15 => ?_) (fun c15 => ?_)
        · replace H := H.1 c15
          obtain ⟨⟨s16, s17⟩, H⟩ := H
          refine x_iconst (q133c0 58 rfl) ?_
          refine x_iadd (q133c0 59 rfl) s16 ?_
          refine x_istore (q133c1 0 rfl) ⟨Nat.le_of_ble_eq_true rfl, trivial⟩ ?_
          refine x_iinc (q133c1 1 rfl) rfl ⟨Nat.le_of_ble_eq_true rfl, trivial⟩ s17 ?_
          refine x_goto (q133c1 2 rfl) ?_
          exact am_x_weak (ls' := [some (.inr (.inr 56)), some (.inl x1), some (.inl x2), some (.inl x3), some (.inl x4), some (.inl x5), some (.inl x6), some (.inl (x7 + 0)), some (.inl (x8 + 1)), some (.inl (h 62 (6 * x8 + x1))), some (.inl 1)]) (lle_c (lle_c (lle_c (lle_c (lle_c (lle_c (lle_c (lle_c (lle_c (lle_d trivial (lle_d trivial (lle_nil)))))))))))) H
        · replace H := H.2 c15
          refine x_aload_n (q133c0 54 rfl) rfl ?_
          refine x_iload (q133c0 55 rfl) rfl ?_
          refine x_cvi (q133c0 56 rfl) rfl oc56 rfl (Nat.le_of_ble_eq_true rfl) (am_lifti (Nat.le_of_ble_eq_true rfl) (e_Mo_folk (r1 := h10 57 (12 + 3 * x8)) (rfl) ?_))
          obtain ⟨⟨s18, s19⟩, H⟩ := H
          refine ⟨⟨s5, s6, s18, s19⟩, ?_⟩
          obtain ⟨⟨s20, s21⟩, H⟩ := H
          refine x_goto (q133c0 57 rfl) ?_
          refine x_iadd (q133c0 59 rfl) s20 ?_
          refine x_istore (q133c1 0 rfl) ⟨Nat.le_of_ble_eq_true rfl, trivial⟩ ?_
          refine x_iinc (q133c1 1 rfl) rfl ⟨Nat.le_of_ble_eq_true rfl, trivial⟩ s21 ?_
          refine x_goto (q133c1 2 rfl) ?_
          exact am_x_weak (ls' := [some (.inr (.inr 56)), some (.inl x1), some (.inl x2), some (.inl x3), some (.inl x4), some (.inl x5), some (.inl x6), some (.inl (x7 + h10 57 (12 + 3 * x8))), some (.inl (x8 + 1)), some (.inl (h 62 (6 * x8 + x1))), some (.inl 1)]) (lle_c (lle_c (lle_c (lle_c (lle_c (lle_c (lle_c (lle_c (lle_c (lle_d trivial (lle_d trivial (lle_nil)))))))))))) H
      · replace H := H.2 c14
        refine x_iload_n (q133c0 50 rfl) rfl ?_
        refine x_goto (q133c0 51 rfl) ?_
        refine x_icmp_ne (q133c0 53 rfl) (fun c22 => ?_) (fun c22 => ?_)
        · replace H := H.1 c22
          obtain ⟨⟨s23, s24⟩, H⟩ := H
          refine x_iconst (q133c0 58 rfl) ?_
          refine x_iadd (q133c0 59 rfl) s23 ?_
          refine x_istore (q133c1 0 rfl) ⟨Nat.le_of_ble_eq_true rfl, trivial⟩ ?_
          refine x_iinc (q133c1 1 rfl) rfl ⟨Nat.le_of_ble_eq_true rfl, trivial⟩ s24 ?_
          refine x_goto (q133c1 2 rfl) ?_
          exact am_x_weak (ls' := [some (.inr (.inr 56)), some (.inl x1), some (.inl x2), some (.inl x3), some (.inl x4), some (.inl x5), some (.inl x6), some (.inl (x7 + 0)), some (.inl (x8 + 1)), some (.inl (h 62 (6 * x8 + x1))), some (.inl 1)]) (lle_c (lle_c (lle_c (lle_c (lle_c (lle_c (lle_c (lle_c (lle_c (lle_d trivial (lle_d trivial (lle_nil)))))))))))) H
        · replace H := H.2 c22
          refine x_aload_n (q133c0 54 rfl) rfl ?_
          refine x_iload (q133c0 55 rfl) rfl ?_
          refine x_cvi (q133c0 56 rfl) rfl oc56 rfl (Nat.le_of_ble_eq_true rfl) (am_lifti (Nat.le_of_ble_eq_true rfl) (e_Mo_folk (r1 := h10 57 (12 + 3 * x8)) (rfl) ?_))
          obtain ⟨⟨s25, s26⟩, H⟩ := H
          refine ⟨⟨s5, s6, s25, s26⟩, ?_⟩
          obtain ⟨⟨s27, s28⟩, H⟩ := H
          refine x_goto (q133c0 57 rfl) ?_
          refine x_iadd (q133c0 59 rfl) s27 ?_
          refine x_istore (q133c1 0 rfl) ⟨Nat.le_of_ble_eq_true rfl, trivial⟩ ?_
          refine x_iinc (q133c1 1 rfl) rfl ⟨Nat.le_of_ble_eq_true rfl, trivial⟩ s28 ?_
          refine x_goto (q133c1 2 rfl) ?_
          exact am_x_weak (ls' := [some (.inr (.inr 56)), some (.inl x1), some (.inl x2), some (.inl x3), some (.inl x4), some (.inl x5), some (.inl x6), some (.inl (x7 + h10 57 (12 + 3 * x8))), some (.inl (x8 + 1)), some (.inl (h 62 (6 * x8 + x1))), some (.inl 1)]) (lle_c (lle_c (lle_c (lle_c (lle_c (lle_c (lle_c (lle_c (lle_c (lle_d trivial (lle_d trivial (lle_nil)))))))))))) H
    · replace H := H.2 c13
      refine x_iconst (q133c0 41 rfl) ?_
      refine x_goto (q133c0 42 rfl) ?_
      refine x_istore (q133c0 44 rfl) ⟨Nat.le_of_ble_eq_true rfl, trivial⟩ ?_
      refine x_iload (q133c0 45 rfl) rfl ?_
      refine x_iload (q133c0 46 rfl) rfl ?_
      refine x_iload (q133c0 47 rfl) rfl ?_
      refine x_iload (q133c0 48 rfl) rfl ?_
      refine x_icmp_ne (q133c0 49 rfl) (fun c29 => ?_) (fun c29 => ?_)
      · replace H := H.1 c29
        refine x_iload_n (q133c0 52 rfl) rfl ?_
        refine x_icmp_ne (q133c0 53 rfl) (fun c30 => ?_) (fun c30 => ?_)
        · replace H := H.1 c30
          obtain ⟨⟨s31, s32⟩, H⟩ := H
          refine x_iconst (q133c0 58 rfl) ?_
          refine x_iadd (q133c0 59 rfl) s31 ?_
          refine x_istore (q133c1 0 rfl) ⟨Nat.le_of_ble_eq_true rfl, trivial⟩ ?_
          refine x_iinc (q133c1 1 rfl) rfl ⟨Nat.le_of_ble_eq_true rfl, trivial⟩ s32 ?_
          refine x_goto (q133c1 2 rfl) ?_
          exact am_x_weak (ls' := [some (.inr (.inr 56)), some (.inl x1), some (.inl x2), some (.inl x3), some (.inl x4), some (.inl x5), some (.inl x6), some (.inl (x7 + 0)), some (.inl (x8 + 1)), some (.inl (h 62 (6 * x8 + x1))), some (.inl 0)]) (lle_c (lle_c (lle_c (lle_c (lle_c (lle_c (lle_c (lle_c (lle_c (lle_d trivial (lle_d trivial (lle_nil)))))))))))) H
        · replace H := H.2 c30
          refine x_aload_n (q133c0 54 rfl) rfl ?_
          refine x_iload (q133c0 55 rfl) rfl ?_
          refine x_cvi (q133c0 56 rfl) rfl oc56 rfl (Nat.le_of_ble_eq_true rfl) (am_lifti (Nat.le_of_ble_eq_true rfl) (e_Mo_folk (r1 := h10 57 (12 + 3 * x8)) (rfl) ?_))
          obtain ⟨⟨s33, s34⟩, H⟩ := H
          refine ⟨⟨s5, s6, s33, s34⟩, ?_⟩
          obtain ⟨⟨s35, s36⟩, H⟩ := H
          refine x_goto (q133c0 57 rfl) ?_
          refine x_iadd (q133c0 59 rfl) s35 ?_
          refine x_istore (q133c1 0 rfl) ⟨Nat.le_of_ble_eq_true rfl, trivial⟩ ?_
          refine x_iinc (q133c1 1 rfl) rfl ⟨Nat.le_of_ble_eq_true rfl, trivial⟩ s36 ?_
          refine x_goto (q133c1 2 rfl) ?_
          exact am_x_weak (ls' := [some (.inr (.inr 56)), some (.inl x1), some (.inl x2), some (.inl x3), some (.inl x4), some (.inl x5), some (.inl x6), some (.inl (x7 + h10 57 (12 + 3 * x8))), some (.inl (x8 + 1)), some (.inl (h 62 (6 * x8 + x1))), some (.inl 0)]) (lle_c (lle_c (lle_c (lle_c (lle_c (lle_c (lle_c (lle_c (lle_c (lle_d trivial (lle_d trivial (lle_nil)))))))))))) H
      · replace H := H.2 c29
        refine x_iload_n (q133c0 50 rfl) rfl ?_
        refine x_goto (q133c0 51 rfl) ?_
        refine x_icmp_ne (q133c0 53 rfl) (fun c37 => ?_) (fun c37 => ?_)
        · replace H := H.1 c37
          obtain ⟨⟨s38, s39⟩, H⟩ := H
          refine x_iconst (q133c0 58 rfl) ?_
          refine x_iadd (q133c0 59 rfl) s38 ?_
          refine x_istore (q133c1 0 rfl) ⟨Nat.le_of_ble_eq_true rfl, trivial⟩ ?_
          refine x_iinc (q133c1 1 rfl) rfl ⟨Nat.le_of_ble_eq_true rfl, trivial⟩ s39 ?_
          refine x_goto (q133c1 2 rfl) ?_
          exact am_x_weak (ls' := [some (.inr (.inr 56)), some (.inl x1), some (.inl x2), some (.inl x3), some (.inl x4), some (.inl x5), some (.inl x6), some (.inl (x7 + 0)), some (.inl (x8 + 1)), some (.inl (h 62 (6 * x8 + x1))), some (.inl 0)]) (lle_c (lle_c (lle_c (lle_c (lle_c (lle_c (lle_c (lle_c (lle_c (lle_d trivial (lle_d trivial (lle_nil)))))))))))) H
        · replace H := H.2 c37
          refine x_aload_n (q133c0 54 rfl) rfl ?_
          refine x_iload (q133c0 55 rfl) rfl ?_
          refine x_cvi (q133c0 56 rfl) rfl oc56 rfl (Nat.le_of_ble_eq_true rfl) (am_lifti (Nat.le_of_ble_eq_true rfl) (e_Mo_folk (r1 := h10 57 (12 + 3 * x8)) (rfl) ?_))
          obtain ⟨⟨s40, s41⟩, H⟩ := H
          refine ⟨⟨s5, s6, s40, s41⟩, ?_⟩
          obtain ⟨⟨s42, s43⟩, H⟩ := H
          refine x_goto (q133c0 57 rfl) ?_
          refine x_iadd (q133c0 59 rfl) s42 ?_
          refine x_istore (q133c1 0 rfl) ⟨Nat.le_of_ble_eq_true rfl, trivial⟩ ?_
          refine x_iinc (q133c1 1 rfl) rfl ⟨Nat.le_of_ble_eq_true rfl, trivial⟩ s43 ?_
          refine x_goto (q133c1 2 rfl) ?_
          exact am_x_weak (ls' := [some (.inr (.inr 56)), some (.inl x1), some (.inl x2), some (.inl x3), some (.inl x4), some (.inl x5), some (.inl x6), some (.inl (x7 + h10 57 (12 + 3 * x8))), some (.inl (x8 + 1)), some (.inl (h 62 (6 * x8 + x1))), some (.inl 0)]) (lle_c (lle_c (lle_c (lle_c (lle_c (lle_c (lle_c (lle_c (lle_c (lle_d trivial (lle_d trivial (lle_nil)))))))))))) H
theorem e_Mo_spreads {h : am_H} {x1 : Int} {P : Int → am_H → Prop} (H : am_x (am_cd 1) 134 (am_qi P) 0 4 [some (.inr (.inr 56)), some (.inl x1), some (.inl x1), some (.inl 0), none, none, none] [] h) : ∃ a h1, am_cd 2 134 [.inr (.inr 56), .inl x1] h (some (.inl a)) h1 ∧ P a h1 := by
  refine am_outi (d := 1) (ls := [some (.inr (.inr 56)), some (.inl x1), none, none, none, none, none]) rfl ab134 ml134 (Nat.le_of_ble_eq_true rfl) np134 rfl ?_
  refine x_iload_n (q134c0 0 rfl) rfl ?_
  refine x_istore_n (q134c0 1 rfl) ⟨Nat.le_of_ble_eq_true rfl, trivial⟩ ?_
  refine x_iconst (q134c0 2 rfl) ?_
  refine x_istore_n (q134c0 3 rfl) ⟨Nat.le_of_ble_eq_true rfl, trivial⟩ ?_
  exact H
theorem g_Mo_spreads_4 {h : am_H} {x1 : Int} {x2 : Int} {x3 : Int} {P : Int → am_H → Prop} (H : (h 57 0 ≤ x3 → P x2 h) ∧ (x3 < h 57 0 → ((am_and (am_shr x1 x3) 1 ≠ 1 → am_x (am_cd 1) 134 (am_qi P) 0 35 [some (.inr (.inr 56)), some (.inl x1), some (.inl x2), some (.inl x3), some (.inl 0), some (.inl 0), some (.inl 0)] [] h) ∧ (am_and (am_shr x1 x3) 1 = 1 → ((am_ok (x3 + 1)) ∧ am_x (am_cd 1) 134 (am_qi P) 0 4 [some (.inr (.inr 56)), some (.inl x1), some (.inl x2), some (.inl (x3 + 1)), none, none, none] [] h))))) : am_x (am_cd 1) 134 (am_qi P) 0 4 [some (.inr (.inr 56)), some (.inl x1), some (.inl x2), some (.inl x3), none, none, none] [] h := by
  refine x_iload_n (q134c0 4 rfl) rfl ?_
  refine x_aload_n (q134c0 5 rfl) rfl ?_
  refine x_getr (q134c0 6 rfl) fd56_0 ?_
  refine x_iconst (q134c0 7 rfl) ?_
  refine x_iaload (q134c0 8 rfl) (al57 _) rfl (ag_l rfl rfl (rfl)) (by decide) ?_
  refine x_icmp_ge (q134c0 9 rfl) (fun c1 => ?_) (fun c1 => ?_)
  · replace H := H.1 c1
    refine x_iload_n (q134c1 23 rfl) rfl ?_
    exact x_ireti (q134c1 24 rfl) zb134 H
  · replace H := H.2 c1
    refine x_iload_n (q134c0 10 rfl) rfl ?_
    refine x_iload_n (q134c0 11 rfl) rfl ?_
    refine x_ishr (q134c0 12 rfl) ?_
    refine x_iconst (q134c0 13 rfl) ?_
    refine x_iand (q134c0 14 rfl) ?_
    refine x_iconst (q134c0 15 rfl) ?_
    refine x_icmp_ne (q134c0 16 rfl) (fun c2 => ?_) (fun c2 => ?_)
    · replace H := H.1 c2
      refine x_iconst (q134c0 18 rfl) ?_
      refine x_istore (q134c0 19 rfl) ⟨Nat.le_of_ble_eq_true rfl, trivial⟩ ?_
      refine x_iconst (q134c0 20 rfl) ?_
      refine x_istore (q134c0 21 rfl) ⟨Nat.le_of_ble_eq_true rfl, trivial⟩ ?_
      refine x_iconst (q134c0 22 rfl) ?_
      refine x_istore (q134c0 23 rfl) ⟨Nat.le_of_ble_eq_true rfl, trivial⟩ ?_
      exact H
    · replace H := H.2 c2
      obtain ⟨s3, H⟩ := H
      refine x_goto (q134c0 17 rfl) ?_
      refine x_iinc (q134c1 21 rfl) rfl ⟨Nat.le_of_ble_eq_true rfl, trivial⟩ s3 ?_
      refine x_goto (q134c1 22 rfl) ?_
      exact H
theorem g_Mo_spreads_35 {h : am_H} {x1 : Int} {x2 : Int} {x3 : Int} {x4 : Int} {x5 : Int} {x6 : Int} {P : Int → am_H → Prop} (H : (h 57 0 ≤ x6 → ((x4 ≤ 0 → ((am_ok (x3 + 1)) ∧ am_x (am_cd 1) 134 (am_qi P) 0 4 [some (.inr (.inr 56)), some (.inl x1), some (.inl (am_or x2 0)), some (.inl (x3 + 1)), none, none, none] [] h)) ∧ (0 < x4 → ((x4 < x5 → ((am_ok (x3 + 1)) ∧ am_x (am_cd 1) 134 (am_qi P) 0 4 [some (.inr (.inr 56)), some (.inl x1), some (.inl (am_or x2 0)), some (.inl (x3 + 1)), none, none, none] [] h)) ∧ (x5 ≤ x4 → ((am_ok (x3 + 1)) ∧ am_x (am_cd 1) 134 (am_qi P) 0 4 [some (.inr (.inr 56)), some (.inl x1), some (.inl (am_or x2 (am_shl 1 x3))), some (.inl (x3 + 1)), none, none, none] [] h)))))) ∧ (x6 < h 57 0 → ((am_ok (12 * x3) ∧ am_ok (46 + 12 * x3) ∧ am_ok (46 + 12 * x3 + x6) ∧ (0 ≤ 46 + 12 * x3 + x6 ∧ 46 + 12 * x3 + x6 < 820)) ∧ ((h 57 (46 + 12 * x3 + x6) ≠ 0 → ((am_and (am_shr x1 x6) 1 ≠ 1 → ((am_ok (x4 + 0)) ∧ ((am_ok (3 * x6) ∧ am_ok (10 + 3 * x6) ∧ am_ok (10 + 3 * x6 + 2) ∧ (0 ≤ 10 + 3 * x6 + 2 ∧ 10 + 3 * x6 + 2 < 820)) ∧ ((am_ok (x5 + h 57 (12 + 3 * x6)) ∧ am_ok (x6 + 1)) ∧ am_x (am_cd 1) 134 (am_qi P) 0 35 [some (.inr (.inr 56)), some (.inl x1), some (.inl x2), some (.inl x3), some (.inl (x4 + 0)), some (.inl (x5 + h 57 (12 + 3 * x6))), some (.inl (x6 + 1))] [] h)))) ∧ (am_and (am_shr x1 x6) 1 = 1 → ((am_ok (3 * x6) ∧ am_ok (10 + 3 * x6) ∧ am_ok (10 + 3 * x6 + 2) ∧ (0 ≤ 10 + 3 * x6 + 2 ∧ 10 + 3 * x6 + 2 < 820)) ∧ ((am_ok (x4 + h 57 (12 + 3 * x6)) ∧ am_ok (x5 + 0) ∧ am_ok (x6 + 1)) ∧ am_x (am_cd 1) 134 (am_qi P) 0 35 [some (.inr (.inr 56)), some (.inl x1), some (.inl x2), some (.inl x3), some (.inl (x4 + h 57 (12 + 3 * x6))), some (.inl (x5 + 0)), some (.inl (x6 + 1))] [] h))))) ∧ (h 57 (46 + 12 * x3 + x6) = 0 → ((am_ok (x6 + 1)) ∧ am_x (am_cd 1) 134 (am_qi P) 0 35 [some (.inr (.inr 56)), some (.inl x1), some (.inl x2), some (.inl x3), some (.inl x4), some (.inl x5), some (.inl (x6 + 1))] [] h)))))) : am_x (am_cd 1) 134 (am_qi P) 0 35 [some (.inr (.inr 56)), some (.inl x1), some (.inl x2), some (.inl x3), some (.inl x4), some (.inl x5), some (.inl x6)] [] h := by
  refine x_iload (q134c0 24 rfl) rfl ?_
  refine x_aload_n (q134c0 25 rfl) rfl ?_
  refine x_getr (q134c0 26 rfl) fd56_0 ?_
  refine x_iconst (q134c0 27 rfl) ?_
  refine x_iaload (q134c0 28 rfl) (al57 _) rfl (ag_l rfl rfl (rfl)) (by decide) ?_
  refine x_icmp_ge (q134c0 29 rfl) (fun c1 => ?_) (fun c1 => ?_)
  · replace H := H.1 c1
    refine x_iload_n (q134c1 8 rfl) rfl ?_
    refine x_iload (q134c1 9 rfl) rfl ?_
    refine x_if_le (q134c1 10 rfl) (fun c2 => ?_) (fun c2 => ?_)
    · replace H := H.1 c2
      obtain ⟨s3, H⟩ := H
      refine x_iconst (q134c1 18 rfl) ?_
      refine x_ior (q134c1 19 rfl) ?_
      refine x_istore_n (q134c1 20 rfl) ⟨Nat.le_of_ble_eq_true rfl, trivial⟩ ?_
      refine x_iinc (q134c1 21 rfl) rfl ⟨Nat.le_of_ble_eq_true rfl, trivial⟩ s3 ?_
      refine x_goto (q134c1 22 rfl) ?_
      exact am_x_weak (ls' := [some (.inr (.inr 56)), some (.inl x1), some (.inl (am_or x2 0)), some (.inl (x3 + 1)), some (.inl x4), some (.inl x5), some (.inl x6)]) (lle_c (lle_c (lle_c (lle_c (lle_d trivial (lle_d trivial (lle_d trivial (lle_nil)))))))) H
    · replace H := H.2 c2
      refine x_iload (q134c1 11 rfl) rfl ?_
      refine x_iload (q134c1 12 rfl) rfl ?_
      refine x_icmp_lt (q134c1 13 rfl) (fun c4 => ?_) (fun c4 => ?_)
      · replace H := H.1 c4
        obtain ⟨s5, H⟩ := H
        refine x_iconst (q134c1 18 rfl) ?_
        refine x_ior (q134c1 19 rfl) ?_
        refine x_istore_n (q134c1 20 rfl) ⟨Nat.le_of_ble_eq_true rfl, trivial⟩ ?_
        refine x_iinc (q134c1 21 rfl) rfl ⟨Nat.le_of_ble_eq_true rfl, trivial⟩ s5 ?_
        refine x_goto (q134c1 22 rfl) ?_
        exact am_x_weak (ls' := [some (.inr (.inr 56)), some (.inl x1), some (.inl (am_or x2 0)), some (.inl (x3 + 1)), some (.inl x4), some (.inl x5), some (.inl x6)]) (lle_c (lle_c (lle_c (lle_c (lle_d trivial (lle_d trivial (lle_d trivial (lle_nil)))))))) H
      · replace H := H.2 c4
        obtain ⟨s6, H⟩ := H
        refine x_iconst (q134c1 14 rfl) ?_
        refine x_iload_n (q134c1 15 rfl) rfl ?_
        refine x_ishl (q134c1 16 rfl) ?_
        refine x_goto (q134c1 17 rfl) ?_
        refine x_ior (q134c1 19 rfl) ?_
        refine x_istore_n (q134c1 20 rfl) ⟨Nat.le_of_ble_eq_true rfl, trivial⟩ ?_
        refine x_iinc (q134c1 21 rfl) rfl ⟨Nat.le_of_ble_eq_true rfl, trivial⟩ s6 ?_
        refine x_goto (q134c1 22 rfl) ?_
        exact am_x_weak (ls' := [some (.inr (.inr 56)), some (.inl x1), some (.inl (am_or x2 (am_shl 1 x3))), some (.inl (x3 + 1)), some (.inl x4), some (.inl x5), some (.inl x6)]) (lle_c (lle_c (lle_c (lle_c (lle_d trivial (lle_d trivial (lle_d trivial (lle_nil)))))))) H
  · replace H := H.2 c1
    refine x_aload_n (q134c0 30 rfl) rfl ?_
    refine x_iload_n (q134c0 31 rfl) rfl ?_
    refine x_iload (q134c0 32 rfl) rfl ?_
    refine x_cvi (q134c0 33 rfl) rfl oc56 rfl (Nat.le_of_ble_eq_true rfl) (am_lifti (Nat.le_of_ble_eq_true rfl) (e_Mo_roadOf (r1 := h 57 (46 + 12 * x3 + x6)) (rfl) ?_))
    obtain ⟨⟨s7, s8, s9, s10⟩, H⟩ := H
    refine ⟨⟨s7, s8, s9, s10⟩, ?_⟩
    refine x_if_ne (q134c0 34 rfl) (fun c11 => ?_) (fun c11 => ?_)
    · replace H := H.1 c11
      refine x_iload (q134c0 36 rfl) rfl ?_
      refine x_iload_n (q134c0 37 rfl) rfl ?_
      refine x_iload (q134c0 38 rfl) rfl ?_
      refine x_ishr (q134c0 39 rfl) ?_
      refine x_iconst (q134c0 40 rfl) ?_
      refine x_iand (q134c0 41 rfl) ?_
      refine x_iconst (q134c0 42 rfl) ?_
      refine x_icmp_ne (q134c0 43 rfl) (fun c12 => ?_) (fun c12 => ?_)
      · replace H := H.1 c12
        obtain ⟨s13, H⟩ := H
        refine x_iconst (q134c0 48 rfl) ?_
        refine x_iadd (q134c0 49 rfl) s13 ?_
        refine x_istore (q134c0 50 rfl) ⟨Nat.le_of_ble_eq_true rfl, trivial⟩ ?_
        refine x_iload (q134c0 51 rfl) rfl ?_
        refine x_iload_n (q134c0 52 rfl) rfl ?_
        refine x_iload (q134c0 53 rfl) rfl ?_
        refine x_ishr (q134c0 54 rfl) ?_
        refine x_iconst (q134c0 55 rfl) ?_
        refine x_iand (q134c0 56 rfl) ?_
        refine x_iconst (q134c0 57 rfl) ?_
        refine x_icmp_ne_t (q134c0 58 rfl) c12 ?_
        refine x_aload_n (q134c1 1 rfl) rfl ?_
        refine x_iload (q134c1 2 rfl) rfl ?_
        refine x_cvi (q134c1 3 rfl) rfl oc56 rfl (Nat.le_of_ble_eq_true rfl) (am_lifti (Nat.le_of_ble_eq_true rfl) (e_Mo_folk (r1 := h 57 (12 + 3 * x6)) (rfl) ?_))
        obtain ⟨⟨s14, s15, s16, s17⟩, H⟩ := H
        refine ⟨⟨s14, s15, s16, s17⟩, ?_⟩
        obtain ⟨⟨s18, s19⟩, H⟩ := H
        refine x_iadd (q134c1 4 rfl) s18 ?_
        refine x_istore (q134c1 5 rfl) ⟨Nat.le_of_ble_eq_true rfl, trivial⟩ ?_
        refine x_iinc (q134c1 6 rfl) rfl ⟨Nat.le_of_ble_eq_true rfl, trivial⟩ s19 ?_
        refine x_goto (q134c1 7 rfl) ?_
        exact H
      · replace H := H.2 c12
        refine x_aload_n (q134c0 44 rfl) rfl ?_
        refine x_iload (q134c0 45 rfl) rfl ?_
        refine x_cvi (q134c0 46 rfl) rfl oc56 rfl (Nat.le_of_ble_eq_true rfl) (am_lifti (Nat.le_of_ble_eq_true rfl) (e_Mo_folk (r1 := h 57 (12 + 3 * x6)) (rfl) ?_))
        obtain ⟨⟨s20, s21, s22, s23⟩, H⟩ := H
        refine ⟨⟨s20, s21, s22, s23⟩, ?_⟩
        obtain ⟨⟨s24, s25, s26⟩, H⟩ := H
        refine x_goto (q134c0 47 rfl) ?_
        refine x_iadd (q134c0 49 rfl) s24 ?_
        refine x_istore (q134c0 50 rfl) ⟨Nat.le_of_ble_eq_true rfl, trivial⟩ ?_
        refine x_iload (q134c0 51 rfl) rfl ?_
        refine x_iload_n (q134c0 52 rfl) rfl ?_
        refine x_iload (q134c0 53 rfl) rfl ?_
        refine x_ishr (q134c0 54 rfl) ?_
        refine x_iconst (q134c0 55 rfl) ?_
        refine x_iand (q134c0 56 rfl) ?_
        refine x_iconst (q134c0 57 rfl) ?_
        refine x_icmp_ne_f (q134c0 58 rfl) c12 ?_
        refine x_iconst (q134c0 59 rfl) ?_
        refine x_goto (q134c1 0 rfl) ?_
        refine x_iadd (q134c1 4 rfl) s25 ?_
        refine x_istore (q134c1 5 rfl) ⟨Nat.le_of_ble_eq_true rfl, trivial⟩ ?_
        refine x_iinc (q134c1 6 rfl) rfl ⟨Nat.le_of_ble_eq_true rfl, trivial⟩ s26 ?_
        refine x_goto (q134c1 7 rfl) ?_
        exact H
    · replace H := H.2 c11
      obtain ⟨s27, H⟩ := H
      refine x_goto (q134c0 35 rfl) ?_
      refine x_iinc (q134c1 6 rfl) rfl ⟨Nat.le_of_ble_eq_true rfl, trivial⟩ s27 ?_
      refine x_goto (q134c1 7 rfl) ?_
      exact H
theorem e_Mo_isSheet {h : am_H} {x0 : Int} {P : Int → am_H → Prop} (H : ((0 ≤ x0 ∧ x0 ≤ 3) → P 1 h) ∧ ((¬(0 ≤ x0 ∧ x0 ≤ 3)) → P 0 h)) : ∃ a h1, am_cd 2 135 [.inl x0] h (some (.inl a)) h1 ∧ P a h1 := by
  refine am_outi (d := 1) (ls := [some (.inl x0)]) rfl ab135 ml135 (Nat.le_of_ble_eq_true rfl) np135 rfl ?_
  refine x_iload_n (q135c0 0 rfl) rfl ?_
  refine x_iconst (q135c0 1 rfl) ?_
  refine x_iconst (q135c0 2 rfl) ?_
  refine x_csi (q135c0 3 rfl) rfl rfl rfl (Nat.le_of_ble_eq_true rfl) (am_lifti (Nat.le_of_ble_eq_true rfl) (e_Mo_in   ?_))
  refine ⟨fun c1 => ?_, fun c1 => ?_⟩
  · exact x_iretz (q135c0 4 rfl) (.inr rfl) (H.1 (by omega))
  · exact x_iretz (q135c0 4 rfl) (.inl rfl) (H.2 (by omega))
theorem e_Mo_count {h : am_H} {x1 : Int} {P : Int → am_H → Prop} (H : (x1 = 0 → P (h 57 0) h) ∧ (x1 ≠ 0 → ((x1 = 1 → am_x (am_cd 1) 136 (am_qi P) 0 61 [some (.inr (.inr 56)), none, some (.inl 0), some (.inl 0), none] [] h) ∧ (x1 ≠ 1 → ((x1 = 2 → P (h 57 1) h) ∧ (x1 ≠ 2 → ((x1 = 3 → P (h 57 2) h) ∧ (x1 ≠ 3 → ((x1 = 4 → P (h 57 3) h) ∧ (x1 ≠ 4 → ((x1 = 5 → am_x (am_cd 1) 136 (am_qi P) 0 135 [some (.inr (.inr 56)), none, some (.inl 0), some (.inl 0), none] [] h) ∧ (x1 ≠ 5 → ((x1 = 6 → P (h 57 4) h) ∧ (x1 ≠ 6 → ((x1 = 7 → am_x (am_cd 1) 136 (am_qi P) 0 187 [some (.inr (.inr 56)), none, some (.inl 0), some (.inl 0), none] [] h) ∧ (x1 ≠ 7 → ((x1 = 8 → P (h 56 3) h) ∧ (x1 ≠ 8 → ((am_ok (h 56 3 + 1)) ∧ P (-100001) (am_up h 56 3 (h 56 3 + 1))))))))))))))))))))) : ∃ a h1, am_cd 2 136 [.inr (.inr 56), .inl x1] h (some (.inl a)) h1 ∧ P a h1 := by
  refine am_outi (d := 1) (ls := [some (.inr (.inr 56)), some (.inl x1), none, none, none]) rfl ab136 ml136 (Nat.le_of_ble_eq_true rfl) np136 rfl ?_
  refine x_iconst (q136c0 0 rfl) ?_
  refine x_istore_n (q136c0 1 rfl) ⟨Nat.le_of_ble_eq_true rfl, trivial⟩ ?_
  refine x_iload_n (q136c0 2 rfl) rfl ?_
  refine x_tsw (q136c0 3 rfl) (tg := 218) (ts := [52, 59, 112, 119, 126, 133, 178, 185, 213]) rfl rfl ?_
  refine sw_cons (fun c1 => ?_) (fun c1 => ?_)
  · replace H := H.1 c1
    refine x_aload_n (q136c0 4 rfl) rfl ?_
    refine x_getr (q136c0 5 rfl) fd56_0 ?_
    refine x_iconst (q136c0 6 rfl) ?_
    refine x_iaload (q136c0 7 rfl) (al57 _) rfl (ag_l rfl rfl (rfl)) (by decide) ?_
    exact x_ireti (q136c0 8 rfl) zb136 H
  · replace H := H.2 c1
    refine sw_cons (fun c2 => ?_) (fun c2 => ?_)
    · replace H := H.1 c2
      refine x_iconst (q136c0 9 rfl) ?_
      refine x_istore_n (q136c0 10 rfl) ⟨Nat.le_of_ble_eq_true rfl, trivial⟩ ?_
      exact am_x_weak (ls' := [some (.inr (.inr 56)), some (.inl x1), some (.inl 0), some (.inl 0), none]) (lle_c (lle_d trivial (lle_c (lle_c (lle_c (lle_nil)))))) H
    · replace H := H.2 c2
      refine sw_cons (fun c3 => ?_) (fun c3 => ?_)
      · replace H := H.1 c3
        refine x_aload_n (q136c0 39 rfl) rfl ?_
        refine x_getr (q136c0 40 rfl) fd56_0 ?_
        refine x_iconst (q136c0 41 rfl) ?_
        refine x_iaload (q136c0 42 rfl) (al57 _) rfl (ag_l rfl rfl (rfl)) (by decide) ?_
        exact x_ireti (q136c0 43 rfl) zb136 H
      · replace H := H.2 c3
        refine sw_cons (fun c4 => ?_) (fun c4 => ?_)
        · replace H := H.1 c4
          refine x_aload_n (q136c0 44 rfl) rfl ?_
          refine x_getr (q136c0 45 rfl) fd56_0 ?_
          refine x_iconst (q136c0 46 rfl) ?_
          refine x_iaload (q136c0 47 rfl) (al57 _) rfl (ag_l rfl rfl (rfl)) (by decide) ?_
          exact x_ireti (q136c0 48 rfl) zb136 H
        · replace H := H.2 c4
          refine sw_cons (fun c5 => ?_) (fun c5 => ?_)
          · replace H := H.1 c5
            refine x_aload_n (q136c0 49 rfl) rfl ?_
            refine x_getr (q136c0 50 rfl) fd56_0 ?_
            refine x_iconst (q136c0 51 rfl) ?_
            refine x_iaload (q136c0 52 rfl) (al57 _) rfl (ag_l rfl rfl (rfl)) (by decide) ?_
            exact x_ireti (q136c0 53 rfl) zb136 H
          · replace H := H.2 c5
            refine sw_cons (fun c6 => ?_) (fun c6 => ?_)
            · replace H := H.1 c6
              refine x_iconst (q136c0 54 rfl) ?_
              refine x_istore_n (q136c0 55 rfl) ⟨Nat.le_of_ble_eq_true rfl, trivial⟩ ?_
              exact am_x_weak (ls' := [some (.inr (.inr 56)), some (.inl x1), some (.inl 0), some (.inl 0), none]) (lle_c (lle_d trivial (lle_c (lle_c (lle_c (lle_nil)))))) H
            · replace H := H.2 c6
              refine sw_cons (fun c7 => ?_) (fun c7 => ?_)
              · replace H := H.1 c7
                refine x_aload_n (q136c1 23 rfl) rfl ?_
                refine x_getr (q136c1 24 rfl) fd56_0 ?_
                refine x_iconst (q136c1 25 rfl) ?_
                refine x_iaload (q136c1 26 rfl) (al57 _) rfl (ag_l rfl rfl (rfl)) (by decide) ?_
                exact x_ireti (q136c1 27 rfl) zb136 H
              · replace H := H.2 c7
                refine sw_cons (fun c8 => ?_) (fun c8 => ?_)
                · replace H := H.1 c8
                  refine x_iconst (q136c1 28 rfl) ?_
                  refine x_istore_n (q136c1 29 rfl) ⟨Nat.le_of_ble_eq_true rfl, trivial⟩ ?_
                  exact am_x_weak (ls' := [some (.inr (.inr 56)), some (.inl x1), some (.inl 0), some (.inl 0), none]) (lle_c (lle_d trivial (lle_c (lle_c (lle_c (lle_nil)))))) H
                · replace H := H.2 c8
                  refine sw_cons (fun c9 => ?_) (fun c9 => ?_)
                  · replace H := H.1 c9
                    refine x_aload_n (q136c1 46 rfl) rfl ?_
                    refine x_getf (q136c1 47 rfl) fd56_3 (rfl) ?_
                    exact x_ireti (q136c1 48 rfl) zb136 H
                  · replace H := H.2 c9
                    refine sw_nil ?_
                    refine x_aload_n (q136c1 49 rfl) rfl ?_
                    refine x_ldc (q136c1 50 rfl) ?_
                    refine x_cvi (q136c1 51 rfl) rfl oc56 rfl (Nat.le_of_ble_eq_true rfl) (am_lifti (Nat.le_of_ble_eq_true rfl) (e_Mo_finds (r1 := h 56 3) (rfl) ?_))
                    obtain ⟨s10, H⟩ := H
                    refine ⟨s10, ?_⟩
                    exact x_ireti (q136c1 52 rfl) zb136 H
theorem g_Mo_count_61 {h : am_H} {x2 : Int} {x3 : Int} {P : Int → am_H → Prop} (H : (h 57 0 ≤ x3 → P x2 h) ∧ (x3 < h 57 0 → am_x (am_cd 1) 136 (am_qi P) 0 74 [some (.inr (.inr 56)), none, some (.inl x2), some (.inl x3), some (.inl 0)] [] h)) : am_x (am_cd 1) 136 (am_qi P) 0 61 [some (.inr (.inr 56)), none, some (.inl x2), some (.inl x3), none] [] h := by
  refine x_iload_n (q136c0 11 rfl) rfl ?_
  refine x_aload_n (q136c0 12 rfl) rfl ?_
  refine x_getr (q136c0 13 rfl) fd56_0 ?_
  refine x_iconst (q136c0 14 rfl) ?_
  refine x_iaload (q136c0 15 rfl) (al57 _) rfl (ag_l rfl rfl (rfl)) (by decide) ?_
  refine x_icmp_ge (q136c0 16 rfl) (fun c1 => ?_) (fun c1 => ?_)
  · replace H := H.1 c1
    refine x_iload_n (q136c0 37 rfl) rfl ?_
    exact x_ireti (q136c0 38 rfl) zb136 H
  · replace H := H.2 c1
    refine x_iconst (q136c0 17 rfl) ?_
    refine x_istore (q136c0 18 rfl) ⟨Nat.le_of_ble_eq_true rfl, trivial⟩ ?_
    exact H
theorem g_Mo_count_74 {h : am_H} {x2 : Int} {x3 : Int} {x4 : Int} {P : Int → am_H → Prop} (H : (x3 ≤ x4 → ((am_ok (x3 + 1)) ∧ am_x (am_cd 1) 136 (am_qi P) 0 61 [some (.inr (.inr 56)), none, some (.inl x2), some (.inl (x3 + 1)), none] [] h)) ∧ (x4 < x3 → ((am_ok (12 * x3) ∧ am_ok (46 + 12 * x3) ∧ am_ok (46 + 12 * x3 + x4) ∧ (0 ≤ 46 + 12 * x3 + x4 ∧ 46 + 12 * x3 + x4 < 820)) ∧ ((h 57 (46 + 12 * x3 + x4) ≤ 0 → ((am_ok (x2 + 0) ∧ am_ok (x4 + 1)) ∧ am_x (am_cd 1) 136 (am_qi P) 0 74 [some (.inr (.inr 56)), none, some (.inl (x2 + 0)), some (.inl x3), some (.inl (x4 + 1))] [] h)) ∧ (0 < h 57 (46 + 12 * x3 + x4) → ((am_ok (x2 + 1) ∧ am_ok (x4 + 1)) ∧ am_x (am_cd 1) 136 (am_qi P) 0 74 [some (.inr (.inr 56)), none, some (.inl (x2 + 1)), some (.inl x3), some (.inl (x4 + 1))] [] h)))))) : am_x (am_cd 1) 136 (am_qi P) 0 74 [some (.inr (.inr 56)), none, some (.inl x2), some (.inl x3), some (.inl x4)] [] h := by
  refine x_iload (q136c0 19 rfl) rfl ?_
  refine x_iload_n (q136c0 20 rfl) rfl ?_
  refine x_icmp_ge (q136c0 21 rfl) (fun c1 => ?_) (fun c1 => ?_)
  · replace H := H.1 c1
    obtain ⟨s2, H⟩ := H
    refine x_iinc (q136c0 35 rfl) rfl ⟨Nat.le_of_ble_eq_true rfl, trivial⟩ s2 ?_
    refine x_goto (q136c0 36 rfl) ?_
    exact am_x_weak (ls' := [some (.inr (.inr 56)), none, some (.inl x2), some (.inl (x3 + 1)), some (.inl x4)]) (lle_c (lle_c (lle_c (lle_c (lle_d trivial (lle_nil)))))) H
  · replace H := H.2 c1
    refine x_iload_n (q136c0 22 rfl) rfl ?_
    refine x_aload_n (q136c0 23 rfl) rfl ?_
    refine x_iload_n (q136c0 24 rfl) rfl ?_
    refine x_iload (q136c0 25 rfl) rfl ?_
    refine x_cvi (q136c0 26 rfl) rfl oc56 rfl (Nat.le_of_ble_eq_true rfl) (am_lifti (Nat.le_of_ble_eq_true rfl) (e_Mo_roadOf (r1 := h 57 (46 + 12 * x3 + x4)) (rfl) ?_))
    obtain ⟨⟨s3, s4, s5, s6⟩, H⟩ := H
    refine ⟨⟨s3, s4, s5, s6⟩, ?_⟩
    refine x_if_le (q136c0 27 rfl) (fun c7 => ?_) (fun c7 => ?_)
    · replace H := H.1 c7
      obtain ⟨⟨s8, s9⟩, H⟩ := H
      refine x_iconst (q136c0 30 rfl) ?_
      refine x_iadd (q136c0 31 rfl) s8 ?_
      refine x_istore_n (q136c0 32 rfl) ⟨Nat.le_of_ble_eq_true rfl, trivial⟩ ?_
      refine x_iinc (q136c0 33 rfl) rfl ⟨Nat.le_of_ble_eq_true rfl, trivial⟩ s9 ?_
      refine x_goto (q136c0 34 rfl) ?_
      exact H
    · replace H := H.2 c7
      obtain ⟨⟨s10, s11⟩, H⟩ := H
      refine x_iconst (q136c0 28 rfl) ?_
      refine x_goto (q136c0 29 rfl) ?_
      refine x_iadd (q136c0 31 rfl) s10 ?_
      refine x_istore_n (q136c0 32 rfl) ⟨Nat.le_of_ble_eq_true rfl, trivial⟩ ?_
      refine x_iinc (q136c0 33 rfl) rfl ⟨Nat.le_of_ble_eq_true rfl, trivial⟩ s11 ?_
      refine x_goto (q136c0 34 rfl) ?_
      exact H
theorem g_Mo_count_135 {h : am_H} {x2 : Int} {x3 : Int} {P : Int → am_H → Prop} (H : (h 57 3 ≤ x3 → P x2 h) ∧ (x3 < h 57 3 → ((am_ok (5 * x3) ∧ am_ok (520 + 5 * x3) ∧ am_ok (520 + 5 * x3 + 4) ∧ (0 ≤ 520 + 5 * x3 + 4 ∧ 520 + 5 * x3 + 4 < 820)) ∧ ((0 ≤ h 57 (524 + 5 * x3) → ((am_ok (x2 + 0) ∧ am_ok (x3 + 1)) ∧ am_x (am_cd 1) 136 (am_qi P) 0 135 [some (.inr (.inr 56)), none, some (.inl (x2 + 0)), some (.inl (x3 + 1)), none] [] h)) ∧ (h 57 (524 + 5 * x3) < 0 → ((am_ok (x2 + 1) ∧ am_ok (x3 + 1)) ∧ am_x (am_cd 1) 136 (am_qi P) 0 135 [some (.inr (.inr 56)), none, some (.inl (x2 + 1)), some (.inl (x3 + 1)), none] [] h)))))) : am_x (am_cd 1) 136 (am_qi P) 0 135 [some (.inr (.inr 56)), none, some (.inl x2), some (.inl x3), none] [] h := by
  refine x_iload_n (q136c0 56 rfl) rfl ?_
  refine x_aload_n (q136c0 57 rfl) rfl ?_
  refine x_getr (q136c0 58 rfl) fd56_0 ?_
  refine x_iconst (q136c0 59 rfl) ?_
  refine x_iaload (q136c1 0 rfl) (al57 _) rfl (ag_l rfl rfl (rfl)) (by decide) ?_
  refine x_icmp_ge (q136c1 1 rfl) (fun c1 => ?_) (fun c1 => ?_)
  · replace H := H.1 c1
    refine x_iload_n (q136c1 21 rfl) rfl ?_
    exact x_ireti (q136c1 22 rfl) zb136 H
  · replace H := H.2 c1
    obtain ⟨⟨s2, s3, s4, s5⟩, H⟩ := H
    refine x_iload_n (q136c1 2 rfl) rfl ?_
    refine x_aload_n (q136c1 3 rfl) rfl ?_
    refine x_getr (q136c1 4 rfl) fd56_0 ?_
    refine x_sipush (q136c1 5 rfl) ?_
    refine x_iconst (q136c1 6 rfl) ?_
    refine x_iload_n (q136c1 7 rfl) rfl ?_
    refine x_imul (q136c1 8 rfl) s2 ?_
    refine x_iadd (q136c1 9 rfl) s3 ?_
    refine x_iconst (q136c1 10 rfl) ?_
    refine x_iadd (q136c1 11 rfl) s4 ?_
    refine x_iaload (q136c1 12 rfl) (al57 _) rfl (ag_l (j1 := 524 + 5 * x3) rfl (by omega) (rfl)) s5 ?_
    refine x_if_ge (q136c1 13 rfl) (fun c6 => ?_) (fun c6 => ?_)
    · replace H := H.1 c6
      obtain ⟨⟨s7, s8⟩, H⟩ := H
      refine x_iconst (q136c1 16 rfl) ?_
      refine x_iadd (q136c1 17 rfl) s7 ?_
      refine x_istore_n (q136c1 18 rfl) ⟨Nat.le_of_ble_eq_true rfl, trivial⟩ ?_
      refine x_iinc (q136c1 19 rfl) rfl ⟨Nat.le_of_ble_eq_true rfl, trivial⟩ s8 ?_
      refine x_goto (q136c1 20 rfl) ?_
      exact H
    · replace H := H.2 c6
      obtain ⟨⟨s9, s10⟩, H⟩ := H
      refine x_iconst (q136c1 14 rfl) ?_
      refine x_goto (q136c1 15 rfl) ?_
      refine x_iadd (q136c1 17 rfl) s9 ?_
      refine x_istore_n (q136c1 18 rfl) ⟨Nat.le_of_ble_eq_true rfl, trivial⟩ ?_
      refine x_iinc (q136c1 19 rfl) rfl ⟨Nat.le_of_ble_eq_true rfl, trivial⟩ s10 ?_
      refine x_goto (q136c1 20 rfl) ?_
      exact H
theorem g_Mo_count_187 {h : am_H} {x2 : Int} {x3 : Int} {P : Int → am_H → Prop} (H : (h 57 0 ≤ x3 → P x2 h) ∧ (x3 < h 57 0 → ((am_ok (3 * x3) ∧ am_ok (10 + 3 * x3) ∧ am_ok (10 + 3 * x3 + 2) ∧ (0 ≤ 10 + 3 * x3 + 2 ∧ 10 + 3 * x3 + 2 < 820)) ∧ ((am_ok (x2 + h 57 (12 + 3 * x3)) ∧ am_ok (x3 + 1)) ∧ am_x (am_cd 1) 136 (am_qi P) 0 187 [some (.inr (.inr 56)), none, some (.inl (x2 + h 57 (12 + 3 * x3))), some (.inl (x3 + 1)), none] [] h)))) : am_x (am_cd 1) 136 (am_qi P) 0 187 [some (.inr (.inr 56)), none, some (.inl x2), some (.inl x3), none] [] h := by
  refine x_iload_n (q136c1 30 rfl) rfl ?_
  refine x_aload_n (q136c1 31 rfl) rfl ?_
  refine x_getr (q136c1 32 rfl) fd56_0 ?_
  refine x_iconst (q136c1 33 rfl) ?_
  refine x_iaload (q136c1 34 rfl) (al57 _) rfl (ag_l rfl rfl (rfl)) (by decide) ?_
  refine x_icmp_ge (q136c1 35 rfl) (fun c1 => ?_) (fun c1 => ?_)
  · replace H := H.1 c1
    refine x_iload_n (q136c1 44 rfl) rfl ?_
    exact x_ireti (q136c1 45 rfl) zb136 H
  · replace H := H.2 c1
    refine x_iload_n (q136c1 36 rfl) rfl ?_
    refine x_aload_n (q136c1 37 rfl) rfl ?_
    refine x_iload_n (q136c1 38 rfl) rfl ?_
    refine x_cvi (q136c1 39 rfl) rfl oc56 rfl (Nat.le_of_ble_eq_true rfl) (am_lifti (Nat.le_of_ble_eq_true rfl) (e_Mo_folk (r1 := h 57 (12 + 3 * x3)) (rfl) ?_))
    obtain ⟨⟨s2, s3, s4, s5⟩, H⟩ := H
    refine ⟨⟨s2, s3, s4, s5⟩, ?_⟩
    obtain ⟨⟨s6, s7⟩, H⟩ := H
    refine x_iadd (q136c1 40 rfl) s6 ?_
    refine x_istore_n (q136c1 41 rfl) ⟨Nat.le_of_ble_eq_true rfl, trivial⟩ ?_
    refine x_iinc (q136c1 42 rfl) rfl ⟨Nat.le_of_ble_eq_true rfl, trivial⟩ s7 ?_
    refine x_goto (q136c1 43 rfl) ?_
    exact H
theorem e_Arrays_fillR {h : am_H} (p0 : Nat) (n0 : Nat) (hal0 : ∀ h : am_H, am_al h p0 = some n0) (hlo0 : p0 < 1000) {x1 : Int} {x2 : Int} {x3 : Int} {P : am_H → Prop} (H : (x1 ≤ x2 → ((0 ≤ x1 → ((x2 ≤ (n0 : Int) → am_x (am_cd 1) 137 (am_qv P) 0 10 [some (.inr (.inr p0)), none, some (.inl x2), some (.inl x3), some (.inl x1)] [] h) ∧ ((n0 : Int) < x2 → False))) ∧ (x1 < 0 → False))) ∧ (x2 < x1 → False)) : ∃ h1, am_cd 2 137 [.inr (.inr p0), .inl x1, .inl x2, .inl x3] h none h1 ∧ P h1 := by
  refine am_outv (d := 1) (ls := [some (.inr (.inr p0)), some (.inl x1), some (.inl x2), some (.inl x3), none]) rfl ab137 ml137 (Nat.le_of_ble_eq_true rfl) np137 rfl ?_
  refine x_aload_n (q137c0 0 rfl) rfl ?_
  refine x_alen (q137c0 1 rfl) (hal0 _) rfl ?_
  refine x_iload_n (q137c0 2 rfl) rfl ?_
  refine x_iload_n (q137c0 3 rfl) rfl ?_
  refine x_csv (q137c0 4 rfl) rfl rfl rfl (Nat.le_of_ble_eq_true rfl) (am_liftv (Nat.le_of_ble_eq_true rfl) (e_Arrays_rangeCheck   ?_))
  refine ⟨fun c1 => ?_, fun c1 => ?_⟩
  · replace H := H.1 c1
    refine ⟨fun c2 => ?_, fun c2 => ?_⟩
    · replace H := H.1 c2
      refine ⟨fun c3 => ?_, fun c3 => ?_⟩
      · replace H := H.1 c3
        refine x_iload_n (q137c0 5 rfl) rfl ?_
        refine x_istore (q137c0 6 rfl) ⟨Nat.le_of_ble_eq_true rfl, trivial⟩ ?_
        exact am_x_weak (ls' := [some (.inr (.inr p0)), some (.inl x1), some (.inl x2), some (.inl x3), some (.inl x1)]) (lle_c (lle_d trivial (lle_c (lle_c (lle_c (lle_nil)))))) H
      · replace H := H.2 c3
        exact H.elim
    · replace H := H.2 c2
      exact H.elim
  · replace H := H.2 c1
    exact H.elim
theorem g_Arrays_fillR_10 {h : am_H} {x2 : Int} {x3 : Int} {x4 : Int} (p0 : Nat) (n0 : Nat) (hal0 : ∀ h : am_H, am_al h p0 = some n0) (hlo0 : p0 < 1000) {P : am_H → Prop} (H : (x2 ≤ x4 → P h) ∧ (x4 < x2 → (((0 ≤ x4 ∧ x4 < (n0 : Int)) ∧ am_ok (x4 + 1)) ∧ am_x (am_cd 1) 137 (am_qv P) 0 10 [some (.inr (.inr p0)), none, some (.inl x2), some (.inl x3), some (.inl (x4 + 1))] [] (am_up h p0 x4 x3)))) : am_x (am_cd 1) 137 (am_qv P) 0 10 [some (.inr (.inr p0)), none, some (.inl x2), some (.inl x3), some (.inl x4)] [] h := by
  refine x_iload (q137c0 7 rfl) rfl ?_
  refine x_iload_n (q137c0 8 rfl) rfl ?_
  refine x_icmp_ge (q137c0 9 rfl) (fun c1 => ?_) (fun c1 => ?_)
  · replace H := H.1 c1
    exact x_ret (q137c0 16 rfl) H
  · replace H := H.2 c1
    obtain ⟨⟨s2, s3⟩, H⟩ := H
    refine x_aload_n (q137c0 10 rfl) rfl ?_
    refine x_iload (q137c0 11 rfl) rfl ?_
    refine x_iload_n (q137c0 12 rfl) rfl ?_
    refine x_iastore (q137c0 13 rfl) (hal0 _) rfl hlo0 s2 (j := x4) rfl ?_
    refine x_iinc (q137c0 14 rfl) rfl ⟨Nat.le_of_ble_eq_true rfl, trivial⟩ s3 ?_
    refine x_goto (q137c0 15 rfl) ?_
    exact H
theorem e_Answers_weightFor {h : am_H} {x1 : Int} {x2 : Int} {x3 : Int} {x4 : Int} {P : Int → am_H → Prop} (H : ∃ h1, am_cd 2 92 [.inr (.inr 17), .inl x1, .inl x2, .inl x4] h none h1 ∧ ((0 ≤ x3 ∧ x3 < 30) ∧ P (h1 23 x3) h1)) : ∃ a h1, am_cd 3 138 [.inr (.inr 17), .inl x1, .inl x2, .inl x3, .inl x4] h (some (.inl a)) h1 ∧ P a h1 := by
  refine am_outi (d := 2) (ls := [some (.inr (.inr 17)), some (.inl x1), some (.inl x2), some (.inl x3), some (.inl x4)]) rfl ab138 ml138 (Nat.le_of_ble_eq_true rfl) np138 rfl ?_
  refine x_aload_n (q138c0 0 rfl) rfl ?_
  refine x_iload_n (q138c0 1 rfl) rfl ?_
  refine x_iload_n (q138c0 2 rfl) rfl ?_
  refine x_iload (q138c0 3 rfl) rfl ?_
  obtain ⟨h1, w2, H⟩ := H
  refine x_cvv (q138c0 4 rfl) rfl oc17 rfl (Nat.le_of_ble_eq_true rfl) ⟨h1, w2, ?_⟩
  obtain ⟨s3, H⟩ := H
  refine x_aload_n (q138c0 5 rfl) rfl ?_
  refine x_getr (q138c0 6 rfl) fd17_7 ?_
  refine x_iload_n (q138c0 7 rfl) rfl ?_
  refine x_iaload (q138c0 8 rfl) (al23 _) rfl (ag_l rfl rfl (rfl)) s3 ?_
  exact x_ireti (q138c0 9 rfl) zb138 H
theorem e_Answers_saidBy {h : am_H} {x1 : Int} {x2 : Int} {x3 : Int} {P : Int → am_H → Prop} (H : ∃ h1, am_cd 2 92 [.inr (.inr 17), .inl x1, .inl x2, .inl x3] h none h1 ∧ am_x (am_cd 2) 139 (am_qi P) 0 16 [some (.inr (.inr 17)), none, none, none, some (.inl (-1)), some (.inl 0), some (.inl 0)] [] h1) : ∃ a h1, am_cd 3 139 [.inr (.inr 17), .inl x1, .inl x2, .inl x3] h (some (.inl a)) h1 ∧ P a h1 := by
  refine am_outi (d := 2) (ls := [some (.inr (.inr 17)), some (.inl x1), some (.inl x2), some (.inl x3), none, none, none]) rfl ab139 ml139 (Nat.le_of_ble_eq_true rfl) np139 rfl ?_
  refine x_aload_n (q139c0 0 rfl) rfl ?_
  refine x_iload_n (q139c0 1 rfl) rfl ?_
  refine x_iload_n (q139c0 2 rfl) rfl ?_
  refine x_iload_n (q139c0 3 rfl) rfl ?_
  obtain ⟨h1, w2, H⟩ := H
  refine x_cvv (q139c0 4 rfl) rfl oc17 rfl (Nat.le_of_ble_eq_true rfl) ⟨h1, w2, ?_⟩
  refine x_iconst (q139c0 5 rfl) ?_
  refine x_istore (q139c0 6 rfl) ⟨Nat.le_of_ble_eq_true rfl, trivial⟩ ?_
  refine x_iconst (q139c0 7 rfl) ?_
  refine x_istore (q139c0 8 rfl) ⟨Nat.le_of_ble_eq_true rfl, trivial⟩ ?_
  refine x_iconst (q139c0 9 rfl) ?_
  refine x_istore (q139c0 10 rfl) ⟨Nat.le_of_ble_eq_true rfl, trivial⟩ ?_
  exact am_x_weak (ls' := [some (.inr (.inr 17)), some (.inl x1), some (.inl x2), some (.inl x3), some (.inl (-1)), some (.inl 0), some (.inl 0)]) (lle_c (lle_d trivial (lle_d trivial (lle_d trivial (lle_c (lle_c (lle_c (lle_nil)))))))) H
theorem g_Answers_saidBy_16 {h : am_H} {x4 : Int} {x5 : Int} {x6 : Int} {P : Int → am_H → Prop} (H : (30 ≤ x6 → P x4 h) ∧ (x6 < 30 → ((0 ≤ x6 ∧ x6 < 30) ∧ ((h 23 x6 ≤ x5 → ((am_ok (x6 + 1)) ∧ am_x (am_cd 2) 139 (am_qi P) 0 16 [some (.inr (.inr 17)), none, none, none, some (.inl x4), some (.inl x5), some (.inl (x6 + 1))] [] h)) ∧ (x5 < h 23 x6 → ((am_ok (x6 + 1)) ∧ am_x (am_cd 2) 139 (am_qi P) 0 16 [some (.inr (.inr 17)), none, none, none, some (.inl x6), some (.inl (h 23 x6)), some (.inl (x6 + 1))] [] h)))))) : am_x (am_cd 2) 139 (am_qi P) 0 16 [some (.inr (.inr 17)), none, none, none, some (.inl x4), some (.inl x5), some (.inl x6)] [] h := by
  refine x_iload (q139c0 11 rfl) rfl ?_
  refine x_aload_n (q139c0 12 rfl) rfl ?_
  refine x_getr (q139c0 13 rfl) fd17_7 ?_
  refine x_alen (q139c0 14 rfl) (al23 _) rfl (z := 30) ?_
  refine x_icmp_ge (q139c0 15 rfl) (fun c1 => ?_) (fun c1 => ?_)
  · replace H := H.1 c1
    refine x_iload (q139c0 31 rfl) rfl ?_
    exact x_ireti (q139c0 32 rfl) zb139 H
  · replace H := H.2 c1
    obtain ⟨s2, H⟩ := H
    refine x_aload_n (q139c0 16 rfl) rfl ?_
    refine x_getr (q139c0 17 rfl) fd17_7 ?_
    refine x_iload (q139c0 18 rfl) rfl ?_
    refine x_iaload (q139c0 19 rfl) (al23 _) rfl (ag_l rfl rfl (rfl)) s2 ?_
    refine x_iload (q139c0 20 rfl) rfl ?_
    refine x_icmp_le (q139c0 21 rfl) (fun c3 => ?_) (fun c3 => ?_)
    · replace H := H.1 c3
      obtain ⟨s4, H⟩ := H
      refine x_iinc (q139c0 29 rfl) rfl ⟨Nat.le_of_ble_eq_true rfl, trivial⟩ s4 ?_
      refine x_goto (q139c0 30 rfl) ?_
      exact H
    · replace H := H.2 c3
      obtain ⟨s5, H⟩ := H
      refine x_iload (q139c0 22 rfl) rfl ?_
      refine x_istore (q139c0 23 rfl) ⟨Nat.le_of_ble_eq_true rfl, trivial⟩ ?_
      refine x_aload_n (q139c0 24 rfl) rfl ?_
      refine x_getr (q139c0 25 rfl) fd17_7 ?_
      refine x_iload (q139c0 26 rfl) rfl ?_
      refine x_iaload (q139c0 27 rfl) (al23 _) rfl (ag_l rfl rfl (rfl)) s2 ?_
      refine x_istore (q139c0 28 rfl) ⟨Nat.le_of_ble_eq_true rfl, trivial⟩ ?_
      refine x_iinc (q139c0 29 rfl) rfl ⟨Nat.le_of_ble_eq_true rfl, trivial⟩ s5 ?_
      refine x_goto (q139c0 30 rfl) ?_
      exact H
theorem e_Border_weigh {h : am_H} {x1 : Int} {x2 : Int} {P : am_H → Prop} (H : am_x (am_cd 2) 140 (am_qv P) 0 5 [some (.inr (.inr 32)), some (.inl x1), some (.inl x2), some (.inl 0), some (.inl 0)] [] h) : ∃ h1, am_cd 3 140 [.inr (.inr 32), .inl x1, .inl x2] h none h1 ∧ P h1 := by
  refine am_outv (d := 2) (ls := [some (.inr (.inr 32)), some (.inl x1), some (.inl x2), none, none]) rfl ab140 ml140 (Nat.le_of_ble_eq_true rfl) np140 rfl ?_
  refine x_iconst (q140c0 0 rfl) ?_
  refine x_istore_n (q140c0 1 rfl) ⟨Nat.le_of_ble_eq_true rfl, trivial⟩ ?_
  refine x_iconst (q140c0 2 rfl) ?_
  refine x_istore (q140c0 3 rfl) ⟨Nat.le_of_ble_eq_true rfl, trivial⟩ ?_
  exact H
theorem g_Border_weigh_5 {h : am_H} {x1 : Int} {x2 : Int} {x3 : Int} {x4 : Int} {P : am_H → Prop} (H : (h 1 0 ≤ x4 → (∃ a3 h2, am_cd 2 44 [.inr (.inr 1), .inl (am_or (am_and x3 (h 32 3)) (am_and (am_xor x3 (-1)) (h 32 2)))] h (some (.inl a3)) h2 ∧ (∃ h5, am_cd 2 18 [.inr (.inr 32), .inl a3, .inl x1, .inl x2, .inl 0] h2 none h5 ∧ (∃ a8 h7, am_cd 2 44 [.inr (.inr 1), .inl (am_or (am_and x3 (h5 32 2)) (am_and (am_xor x3 (-1)) (h5 32 3)))] h5 (some (.inl a8)) h7 ∧ (∃ h10, am_cd 2 18 [.inr (.inr 32), .inl a8, .inl x1, .inl x2, .inl 1] h7 none h10 ∧ P h10))))) ∧ (x4 < h 1 0 → ((0 ≤ x1 ∧ x1 < 8) ∧ ((0 ≤ x4 ∧ x4 < 12) ∧ ((am_ok (am_ct 2002 x1 * h 2 x4)) ∧ ((am_ok (am_ct 2003 x1 * h 3 x4) ∧ am_ok (am_ct 2002 x1 * h 2 x4 + am_ct 2003 x1 * h 3 x4)) ∧ ((x2 ≤ am_ct 2002 x1 * h 2 x4 + am_ct 2003 x1 * h 3 x4 → ((am_ok (x4 + 1)) ∧ am_x (am_cd 2) 140 (am_qv P) 0 5 [some (.inr (.inr 32)), some (.inl x1), some (.inl x2), some (.inl (am_or x3 0)), some (.inl (x4 + 1))] [] h)) ∧ (am_ct 2002 x1 * h 2 x4 + am_ct 2003 x1 * h 3 x4 < x2 → ((am_ok (x4 + 1)) ∧ am_x (am_cd 2) 140 (am_qv P) 0 5 [some (.inr (.inr 32)), some (.inl x1), some (.inl x2), some (.inl (am_or x3 (am_shl 1 x4))), some (.inl (x4 + 1))] [] h))))))))) : am_x (am_cd 2) 140 (am_qv P) 0 5 [some (.inr (.inr 32)), some (.inl x1), some (.inl x2), some (.inl x3), some (.inl x4)] [] h := by
  refine x_iload (q140c0 4 rfl) rfl ?_
  refine x_aload_n (q140c0 5 rfl) rfl ?_
  refine x_getr (q140c0 6 rfl) fd32_0 ?_
  refine x_cvi (q140c0 7 rfl) rfl oc1 rfl (Nat.le_of_ble_eq_true rfl) (am_lifti (Nat.le_of_ble_eq_true rfl) (e_Land_size (r1 := h 1 0) (rfl) ?_))
  refine x_icmp_ge (q140c0 8 rfl) (fun c1 => ?_) (fun c1 => ?_)
  · replace H := H.1 c1
    refine x_aload_n (q140c0 25 rfl) rfl ?_
    refine x_aload_n (q140c0 26 rfl) rfl ?_
    refine x_getr (q140c0 27 rfl) fd32_0 ?_
    refine x_iload_n (q140c0 28 rfl) rfl ?_
    refine x_aload_n (q140c0 29 rfl) rfl ?_
    refine x_getf (q140c0 30 rfl) fd32_3 (rfl) ?_
    refine x_iand (q140c0 31 rfl) ?_
    refine x_iload_n (q140c0 32 rfl) rfl ?_
    refine x_iconst (q140c0 33 rfl) ?_
    refine x_ixor (q140c0 34 rfl) ?_
    refine x_aload_n (q140c0 35 rfl) rfl ?_
    refine x_getf (q140c0 36 rfl) fd32_2 (rfl) ?_
    refine x_iand (q140c0 37 rfl) ?_
    refine x_ior (q140c0 38 rfl) ?_
    obtain ⟨a3, h2, w4, H⟩ := H
    refine x_cvi (q140c0 39 rfl) rfl oc1 rfl (Nat.le_of_ble_eq_true rfl) ⟨a3, h2, w4, ?_⟩
    refine x_iload_n (q140c0 40 rfl) rfl ?_
    refine x_iload_n (q140c0 41 rfl) rfl ?_
    refine x_iconst (q140c0 42 rfl) ?_
    obtain ⟨h5, w6, H⟩ := H
    refine x_cvv (q140c0 43 rfl) rfl oc32 rfl (Nat.le_of_ble_eq_true rfl) ⟨h5, w6, ?_⟩
    refine x_aload_n (q140c0 44 rfl) rfl ?_
    refine x_aload_n (q140c0 45 rfl) rfl ?_
    refine x_getr (q140c0 46 rfl) fd32_0 ?_
    refine x_iload_n (q140c0 47 rfl) rfl ?_
    refine x_aload_n (q140c0 48 rfl) rfl ?_
    refine x_getf (q140c0 49 rfl) fd32_2 (rfl) ?_
    refine x_iand (q140c0 50 rfl) ?_
    refine x_iload_n (q140c0 51 rfl) rfl ?_
    refine x_iconst (q140c0 52 rfl) ?_
    refine x_ixor (q140c0 53 rfl) ?_
    refine x_aload_n (q140c0 54 rfl) rfl ?_
    refine x_getf (q140c0 55 rfl) fd32_3 (rfl) ?_
    refine x_iand (q140c0 56 rfl) ?_
    refine x_ior (q140c0 57 rfl) ?_
    obtain ⟨a8, h7, w9, H⟩ := H
    refine x_cvi (q140c0 58 rfl) rfl oc1 rfl (Nat.le_of_ble_eq_true rfl) ⟨a8, h7, w9, ?_⟩
    refine x_iload_n (q140c0 59 rfl) rfl ?_
    refine x_iload_n (q140c1 0 rfl) rfl ?_
    refine x_iconst (q140c1 1 rfl) ?_
    obtain ⟨h10, w11, H⟩ := H
    refine x_cvv (q140c1 2 rfl) rfl oc32 rfl (Nat.le_of_ble_eq_true rfl) ⟨h10, w11, ?_⟩
    exact x_ret (q140c1 3 rfl) H
  · replace H := H.2 c1
    refine x_iload_n (q140c0 9 rfl) rfl ?_
    refine x_aload_n (q140c0 10 rfl) rfl ?_
    refine x_iload (q140c0 11 rfl) rfl ?_
    refine x_iload_n (q140c0 12 rfl) rfl ?_
    refine x_cvi (q140c0 13 rfl) rfl oc32 rfl (Nat.le_of_ble_eq_true rfl) (am_lifti (Nat.le_of_ble_eq_true rfl) (e_Border_heightOf (r1 := h 2 x4) (r2 := h 3 x4) (rfl) (rfl) ?_))
    obtain ⟨s12, H⟩ := H
    refine ⟨s12, ?_⟩
    obtain ⟨s13, H⟩ := H
    refine ⟨s13, ?_⟩
    obtain ⟨s14, H⟩ := H
    refine ⟨s14, ?_⟩
    obtain ⟨⟨s15, s16⟩, H⟩ := H
    refine ⟨⟨s15, s16⟩, ?_⟩
    refine x_iload_n (q140c0 14 rfl) rfl ?_
    refine x_icmp_ge (q140c0 15 rfl) (fun c17 => ?_) (fun c17 => ?_)
    · replace H := H.1 c17
      obtain ⟨s18, H⟩ := H
      refine x_iconst (q140c0 20 rfl) ?_
      refine x_ior (q140c0 21 rfl) ?_
      refine x_istore_n (q140c0 22 rfl) ⟨Nat.le_of_ble_eq_true rfl, trivial⟩ ?_
      refine x_iinc (q140c0 23 rfl) rfl ⟨Nat.le_of_ble_eq_true rfl, trivial⟩ s18 ?_
      refine x_goto (q140c0 24 rfl) ?_
      exact H
    · replace H := H.2 c17
      obtain ⟨s19, H⟩ := H
      refine x_iconst (q140c0 16 rfl) ?_
      refine x_iload (q140c0 17 rfl) rfl ?_
      refine x_ishl (q140c0 18 rfl) ?_
      refine x_goto (q140c0 19 rfl) ?_
      refine x_ior (q140c0 21 rfl) ?_
      refine x_istore_n (q140c0 22 rfl) ⟨Nat.le_of_ble_eq_true rfl, trivial⟩ ?_
      refine x_iinc (q140c0 23 rfl) rfl ⟨Nat.le_of_ble_eq_true rfl, trivial⟩ s19 ?_
      refine x_goto (q140c0 24 rfl) ?_
      exact H
theorem e_Dialects_part {n : Nat} {h : am_H} {x1 : Int} {x2 : Int} {x3 : Int} {x4 : Int} {P : am_H → Prop} (H : ∃ a2 h1, am_cd (n + 2) 94 [.inr (.inr 33), .inl x1, .inl x2, .inl x4] h (some (.inl a2)) h1 ∧ ((am_ok (x3 + a2)) ∧ ((x3 + a2 < h1 33 8 → ((x1 < h1 33 9 → am_x (am_cd (n + 2)) 141 (am_qv P) 0 53 [some (.inr (.inr 33)), some (.inl x1), some (.inl x2), some (.inl x3), some (.inl x4), some (.inl 0), none] [] h1) ∧ (h1 33 9 ≤ x1 → (((0 : Int) ≤ 0 ∧ (0 : Int) ≤ 0 ∧ (0 : Int) ≤ 10 ∧ (0 : Int) + 10 ≤ 10 ∧ (0 : Int) + 10 ≤ 10) ∧ P (am_cp (am_up h1 33 8 x3) 37 0 38 0 10))))) ∧ (h1 33 8 ≤ x3 + a2 → P h1)))) : ∃ h1, am_cd (n + 3) 141 [.inr (.inr 33), .inl x1, .inl x2, .inl x3, .inl x4] h none h1 ∧ P h1 := by
  refine am_outv (d := (n + 2)) (ls := [some (.inr (.inr 33)), some (.inl x1), some (.inl x2), some (.inl x3), some (.inl x4), none, none]) rfl ab141 ml141 (Nat.le_of_ble_eq_true rfl) np141 rfl ?_
  refine x_iload_n (q141c0 0 rfl) rfl ?_
  refine x_aload_n (q141c0 1 rfl) rfl ?_
  refine x_iload_n (q141c0 2 rfl) rfl ?_
  refine x_iload_n (q141c0 3 rfl) rfl ?_
  refine x_iload (q141c0 4 rfl) rfl ?_
  obtain ⟨a2, h1, w3, H⟩ := H
  refine x_cvi (q141c0 5 rfl) rfl oc33 rfl (Nat.le_of_ble_eq_true rfl) ⟨a2, h1, w3, ?_⟩
  obtain ⟨s4, H⟩ := H
  refine x_iadd (q141c0 6 rfl) s4 ?_
  refine x_aload_n (q141c0 7 rfl) rfl ?_
  refine x_getf (q141c0 8 rfl) fd33_8 (rfl) ?_
  refine x_icmp_lt (q141c0 9 rfl) (fun c5 => ?_) (fun c5 => ?_)
  · replace H := H.1 c5
    refine x_iload_n (q141c0 11 rfl) rfl ?_
    refine x_aload_n (q141c0 12 rfl) rfl ?_
    refine x_getf (q141c0 13 rfl) fd33_9 (rfl) ?_
    refine x_icmp_lt (q141c0 14 rfl) (fun c6 => ?_) (fun c6 => ?_)
    · replace H := H.1 c6
      refine x_iconst (q141c0 29 rfl) ?_
      refine x_istore (q141c0 30 rfl) ⟨Nat.le_of_ble_eq_true rfl, trivial⟩ ?_
      exact H
    · replace H := H.2 c6
      obtain ⟨s7, H⟩ := H
      refine x_aload_n (q141c0 15 rfl) rfl ?_
      refine x_iload_n (q141c0 16 rfl) rfl ?_
      refine x_putf (q141c0 17 rfl) fd33_8 ?_
      refine x_aload_n (q141c0 18 rfl) rfl ?_
      refine x_getr (q141c0 19 rfl) fd33_6 ?_
      refine x_iconst (q141c0 20 rfl) ?_
      refine x_aload_n (q141c0 21 rfl) rfl ?_
      refine x_getr (q141c0 22 rfl) fd33_7 ?_
      refine x_iconst (q141c0 23 rfl) ?_
      refine x_aload_n (q141c0 24 rfl) rfl ?_
      refine x_getr (q141c0 25 rfl) fd33_6 ?_
      refine x_alen (q141c0 26 rfl) (al37 _) rfl (z := 10) ?_
      refine x_cpy (q141c0 27 rfl) rfl (al37 _) rfl (al38 _) rfl ⟨(Nat.le_of_ble_eq_true rfl), (Nat.le_of_ble_eq_true rfl)⟩ (Nat.le_of_ble_eq_true rfl) s7 ?_
      exact x_ret (q141c0 28 rfl) H
  · replace H := H.2 c5
    exact x_ret (q141c0 10 rfl) H
