theorem g_Tour_collect_73 {h : am_H} {x3 : Int} {P : am_H → Prop} (H : (h 39 1 < x3 → P h) ∧ (x3 ≤ h 39 1 → ((0 ≤ x3 ∧ x3 < 8) ∧ (∃ h3, am_cd 4 180 [.inr (.inr 1), .inl (am_shl 1 (h 40 x3))] h none h3 ∧ am_x (am_cd 4) 207 (am_qv P) 0 99 [some (.inr (.inr 39)), none, none, some (.inl x3), some (.inl 0)] [] h3)))) : am_x (am_cd 4) 207 (am_qv P) 0 73 [some (.inr (.inr 39)), none, none, some (.inl x3), none] [] h := by
  refine x_iload_n (q207c0 42 rfl) rfl ?_
  refine x_aload_n (q207c0 43 rfl) rfl ?_
  refine x_getf (q207c0 44 rfl) fd39_1 (rfl) ?_
  refine x_icmp_gt (q207c0 45 rfl) (fun c1 => ?_) (fun c1 => ?_)
  · replace H := H.1 c1
    exact x_ret (q207c1 20 rfl) H
  · replace H := H.2 c1
    obtain ⟨s2, H⟩ := H
    refine x_aload_n (q207c0 46 rfl) rfl ?_
    refine x_getr (q207c0 47 rfl) fd39_0 ?_
    refine x_iconst (q207c0 48 rfl) ?_
    refine x_aload_n (q207c0 49 rfl) rfl ?_
    refine x_getr (q207c0 50 rfl) fd39_2 ?_
    refine x_iload_n (q207c0 51 rfl) rfl ?_
    refine x_iaload (q207c0 52 rfl) (al40 _) rfl (ag_l rfl rfl (rfl)) s2 ?_
    refine x_ishl (q207c0 53 rfl) ?_
    obtain ⟨h3, w4, H⟩ := H
    refine x_cvv (q207c0 54 rfl) rfl oc1 rfl (Nat.le_of_ble_eq_true rfl) ⟨h3, w4, ?_⟩
    refine x_iconst (q207c0 55 rfl) ?_
    refine x_istore (q207c0 56 rfl) ⟨Nat.le_of_ble_eq_true rfl, trivial⟩ ?_
    exact H
theorem g_Tour_collect_99 {h : am_H} {x3 : Int} {x4 : Int} {P : am_H → Prop} (H : (h 39 1 < x4 → ((am_ok (x3 + 1)) ∧ am_x (am_cd 4) 207 (am_qv P) 0 73 [some (.inr (.inr 39)), none, none, some (.inl (x3 + 1)), none] [] h)) ∧ (x4 ≤ h 39 1 → ((am_ok (x3 * 8) ∧ am_ok (x3 * 8 + x4) ∧ (0 ≤ x4 ∧ x4 < 8)) ∧ ((0 ≤ h 40 x4 ∧ h 40 x4 < 12) ∧ (((0 ≤ x3 * 8 + x4 ∧ x3 * 8 + x4 < 64) ∧ am_ok (x4 + 1)) ∧ am_x (am_cd 4) 207 (am_qv P) 0 99 [some (.inr (.inr 39)), none, none, some (.inl x3), some (.inl (x4 + 1))] [] (am_up h 41 (8 * x3 + x4) (h 6 (h 40 x4)))))))) : am_x (am_cd 4) 207 (am_qv P) 0 99 [some (.inr (.inr 39)), none, none, some (.inl x3), some (.inl x4)] [] h := by
  refine x_iload (q207c0 57 rfl) rfl ?_
  refine x_aload_n (q207c0 58 rfl) rfl ?_
  refine x_getf (q207c0 59 rfl) fd39_1 (rfl) ?_
  refine x_icmp_gt (q207c1 0 rfl) (fun c1 => ?_) (fun c1 => ?_)
  · replace H := H.1 c1
    obtain ⟨s2, H⟩ := H
    refine x_iinc (q207c1 18 rfl) rfl ⟨Nat.le_of_ble_eq_true rfl, trivial⟩ s2 ?_
    refine x_goto (q207c1 19 rfl) ?_
    exact am_x_weak (ls' := [some (.inr (.inr 39)), none, none, some (.inl (x3 + 1)), some (.inl x4)]) (lle_c (lle_c (lle_c (lle_c (lle_d trivial (lle_nil)))))) H
  · replace H := H.2 c1
    obtain ⟨⟨s3, s4, s5⟩, H⟩ := H
    refine x_aload_n (q207c1 1 rfl) rfl ?_
    refine x_getr (q207c1 2 rfl) fd39_3 ?_
    refine x_iload_n (q207c1 3 rfl) rfl ?_
    refine x_bipush (q207c1 4 rfl) ?_
    refine x_imul (q207c1 5 rfl) s3 ?_
    refine x_iload (q207c1 6 rfl) rfl ?_
    refine x_iadd (q207c1 7 rfl) s4 ?_
    refine x_aload_n (q207c1 8 rfl) rfl ?_
    refine x_getr (q207c1 9 rfl) fd39_0 ?_
    refine x_aload_n (q207c1 10 rfl) rfl ?_
    refine x_getr (q207c1 11 rfl) fd39_2 ?_
    refine x_iload (q207c1 12 rfl) rfl ?_
    refine x_iaload (q207c1 13 rfl) (al40 _) rfl (ag_l rfl rfl (rfl)) s5 ?_
    refine x_cvi (q207c1 14 rfl) rfl oc1 rfl (Nat.le_of_ble_eq_true rfl) (am_lifti (Nat.le_of_ble_eq_true rfl) (e_Land_walkTo (r1 := h 6 (h 40 x4)) (rfl) ?_))
    obtain ⟨s6, H⟩ := H
    refine ⟨s6, ?_⟩
    obtain ⟨⟨s7, s8⟩, H⟩ := H
    refine x_iastore (q207c1 15 rfl) (al41 _) rfl (Nat.le_of_ble_eq_true rfl) s7 (j := 8 * x3 + x4) (by omega) ?_
    refine x_iinc (q207c1 16 rfl) rfl ⟨Nat.le_of_ble_eq_true rfl, trivial⟩ s8 ?_
    refine x_goto (q207c1 17 rfl) ?_
    exact H
theorem e_At_walk {h : am_H} {x1 : Int} {x2 : Int} {P : Int → am_H → Prop} (H : ((0 ≤ x1 ∧ x1 < h 1 0) → (((0 ≤ x2 ∧ x2 < h 1 0) → (∃ h3, am_cd 4 180 [.inr (.inr 1), .inl (am_shl 1 x1)] h none h3 ∧ ((0 ≤ x2 ∧ x2 < 12) ∧ ((h3 6 x2 < 1000000 → P (h3 6 x2) h3) ∧ (1000000 ≤ h3 6 x2 → ((am_ok (h3 0 13 + 1)) ∧ P (-100008) (am_up h3 0 13 (h3 0 13 + 1)))))))) ∧ ((¬(0 ≤ x2 ∧ x2 < h 1 0)) → ((am_ok (h 0 13 + 1)) ∧ P (-100001) (am_up h 0 13 (h 0 13 + 1)))))) ∧ ((¬(0 ≤ x1 ∧ x1 < h 1 0)) → ((am_ok (h 0 13 + 1)) ∧ P (-100001) (am_up h 0 13 (h 0 13 + 1))))) : ∃ a h1, am_cd 5 208 [.inr (.inr 0), .inl x1, .inl x2] h (some (.inl a)) h1 ∧ P a h1 := by
  refine am_outi (d := 4) (ls := [some (.inr (.inr 0)), some (.inl x1), some (.inl x2)]) rfl ab208 ml208 (Nat.le_of_ble_eq_true rfl) np208 rfl ?_
  refine x_aload_n (q208c0 0 rfl) rfl ?_
  refine x_getr (q208c0 1 rfl) fd0_0 ?_
  refine x_iload_n (q208c0 2 rfl) rfl ?_
  refine x_cvi (q208c0 3 rfl) rfl oc1 rfl (Nat.le_of_ble_eq_true rfl) (am_lifti (Nat.le_of_ble_eq_true rfl) (e_Land_has (r1 := h 1 0) (rfl) ?_))
  refine ⟨fun c1 => ?_, fun c1 => ?_⟩
  · replace H := H.1 c1
    refine x_if_eq_f (q208c0 4 rfl) (by decide) ?_
    refine x_aload_n (q208c0 5 rfl) rfl ?_
    refine x_getr (q208c0 6 rfl) fd0_0 ?_
    refine x_iload_n (q208c0 7 rfl) rfl ?_
    refine x_cvi (q208c0 8 rfl) rfl oc1 rfl (Nat.le_of_ble_eq_true rfl) (am_lifti (Nat.le_of_ble_eq_true rfl) (e_Land_has (r1 := h 1 0) (rfl) ?_))
    refine ⟨fun c2 => ?_, fun c2 => ?_⟩
    · replace H := H.1 c2
      refine x_if_ne_t (q208c0 9 rfl) (by decide) ?_
      refine x_aload_n (q208c0 14 rfl) rfl ?_
      refine x_getr (q208c0 15 rfl) fd0_0 ?_
      refine x_iconst (q208c0 16 rfl) ?_
      refine x_iload_n (q208c0 17 rfl) rfl ?_
      refine x_ishl (q208c0 18 rfl) ?_
      obtain ⟨h3, w4, H⟩ := H
      refine x_cvv (q208c0 19 rfl) rfl oc1 rfl (Nat.le_of_ble_eq_true rfl) ⟨h3, w4, ?_⟩
      refine x_aload_n (q208c0 20 rfl) rfl ?_
      refine x_getr (q208c0 21 rfl) fd0_0 ?_
      refine x_iload_n (q208c0 22 rfl) rfl ?_
      refine x_cvi (q208c0 23 rfl) rfl oc1 rfl (Nat.le_of_ble_eq_true rfl) (am_lifti (Nat.le_of_ble_eq_true rfl) (e_Land_reaches (r1 := h3 6 x2) (rfl) ?_))
      obtain ⟨s5, H⟩ := H
      refine ⟨s5, ?_⟩
      refine ⟨fun c6 => ?_, fun c6 => ?_⟩
      · replace H := H.1 c6
        refine x_if_eq_f (q208c0 24 rfl) (by decide) ?_
        refine x_aload_n (q208c0 25 rfl) rfl ?_
        refine x_getr (q208c0 26 rfl) fd0_0 ?_
        refine x_iload_n (q208c0 27 rfl) rfl ?_
        refine x_cvi (q208c0 28 rfl) rfl oc1 rfl (Nat.le_of_ble_eq_true rfl) (am_lifti (Nat.le_of_ble_eq_true rfl) (e_Land_walkTo (r1 := h3 6 x2) (rfl) ?_))
        refine ⟨s5, ?_⟩
        refine x_goto (q208c0 29 rfl) ?_
        exact x_ireti (q208c0 33 rfl) zb208 H
      · replace H := H.2 c6
        refine x_if_eq_t (q208c0 24 rfl) (by decide) ?_
        refine x_aload_n (q208c0 30 rfl) rfl ?_
        refine x_ldc (q208c0 31 rfl) ?_
        refine x_cvi (q208c0 32 rfl) rfl oc0 rfl (Nat.le_of_ble_eq_true rfl) (am_lifti (Nat.le_of_ble_eq_true rfl) (e_At_finding (r1 := h3 0 13) (rfl) ?_))
        obtain ⟨s7, H⟩ := H
        refine ⟨s7, ?_⟩
        exact x_ireti (q208c0 33 rfl) zb208 H
    · replace H := H.2 c2
      refine x_if_ne_f (q208c0 9 rfl) (by decide) ?_
      refine x_aload_n (q208c0 10 rfl) rfl ?_
      refine x_ldc (q208c0 11 rfl) ?_
      refine x_cvi (q208c0 12 rfl) rfl oc0 rfl (Nat.le_of_ble_eq_true rfl) (am_lifti (Nat.le_of_ble_eq_true rfl) (e_At_finding (r1 := h 0 13) (rfl) ?_))
      obtain ⟨s8, H⟩ := H
      refine ⟨s8, ?_⟩
      exact x_ireti (q208c0 13 rfl) zb208 H
  · replace H := H.2 c1
    refine x_if_eq_t (q208c0 4 rfl) (by decide) ?_
    refine x_aload_n (q208c0 10 rfl) rfl ?_
    refine x_ldc (q208c0 11 rfl) ?_
    refine x_cvi (q208c0 12 rfl) rfl oc0 rfl (Nat.le_of_ble_eq_true rfl) (am_lifti (Nat.le_of_ble_eq_true rfl) (e_At_finding (r1 := h 0 13) (rfl) ?_))
    obtain ⟨s9, H⟩ := H
    refine ⟨s9, ?_⟩
    exact x_ireti (q208c0 13 rfl) zb208 H
theorem e_At_form {h : am_H} {x1 : Int} {y2 : Int64} {P : Int → am_H → Prop} (H : ∃ a2 h1, am_cd 4 27 [.inr (.inr 11), .inl x1, .inr (.inl y2)] h (some (.inl a2)) h1 ∧ ((a2 ≠ 0 → (∃ a6 h5, am_cd 4 178 [.inr (.inr 11)] h1 (some (.inl a6)) h5 ∧ ((a6 ≠ (-1) → (∃ h9, am_cd 4 97 [.inr (.inr 51), .inl 3, .inl 0, .inl 0] h5 none h9 ∧ P a6 h9)) ∧ (a6 = (-1) → ((h5 11 0 < 30 → (∃ h12, am_cd 4 97 [.inr (.inr 51), .inl 3, .inl 0, .inl 1] h5 none h12 ∧ (∃ a15 h14, am_cd 4 142 [.inr (.inr 11)] h12 (some (.inl a15)) h14 ∧ P a15 h14))) ∧ (30 ≤ h5 11 0 → ((am_ok (h5 0 13 + 1)) ∧ P (-100005) (am_up h5 0 13 (h5 0 13 + 1))))))))) ∧ (a2 = 0 → ((am_ok (h1 0 13 + 1)) ∧ P (-100001) (am_up h1 0 13 (h1 0 13 + 1)))))) : ∃ a h1, am_cd 5 209 [.inr (.inr 0), .inl x1, .inr (.inl y2)] h (some (.inl a)) h1 ∧ P a h1 := by
  refine am_outi (d := 4) (ls := [some (.inr (.inr 0)), some (.inl x1), some (.inr (.inl y2)), none, none]) rfl ab209 ml209 (Nat.le_of_ble_eq_true rfl) np209 rfl ?_
  refine x_aload_n (q209c0 0 rfl) rfl ?_
  refine x_getr (q209c0 1 rfl) fd0_2 ?_
  refine x_iload_n (q209c0 2 rfl) rfl ?_
  refine x_lload_n (q209c0 3 rfl) rfl ?_
  obtain ⟨a2, h1, w3, H⟩ := H
  refine x_cvi (q209c0 4 rfl) rfl oc11 rfl (Nat.le_of_ble_eq_true rfl) ⟨a2, h1, w3, ?_⟩
  refine x_if_ne (q209c0 5 rfl) (fun c4 => ?_) (fun c4 => ?_)
  · replace H := H.1 c4
    refine x_aload_n (q209c0 10 rfl) rfl ?_
    refine x_getr (q209c0 11 rfl) fd0_2 ?_
    obtain ⟨a6, h5, w7, H⟩ := H
    refine x_cvi (q209c0 12 rfl) rfl oc11 rfl (Nat.le_of_ble_eq_true rfl) ⟨a6, h5, w7, ?_⟩
    refine x_istore (q209c0 13 rfl) ⟨Nat.le_of_ble_eq_true rfl, trivial⟩ ?_
    refine x_iload (q209c0 14 rfl) rfl ?_
    refine x_iconst (q209c0 15 rfl) ?_
    refine x_icmp_ne (q209c0 16 rfl) (fun c8 => ?_) (fun c8 => ?_)
    · replace H := H.1 c8
      refine x_aload_n (q209c0 26 rfl) rfl ?_
      refine x_getr (q209c0 27 rfl) fd0_10 ?_
      refine x_iconst (q209c0 28 rfl) ?_
      refine x_iconst (q209c0 29 rfl) ?_
      refine x_iload (q209c0 30 rfl) rfl ?_
      refine x_iconst (q209c0 31 rfl) ?_
      refine x_icmp_ne_t (q209c0 32 rfl) c8 ?_
      refine x_iconst (q209c0 35 rfl) ?_
      obtain ⟨h9, w10, H⟩ := H
      refine x_cvv (q209c0 36 rfl) rfl oc51 rfl (Nat.le_of_ble_eq_true rfl) ⟨h9, w10, ?_⟩
      refine x_iload (q209c0 37 rfl) rfl ?_
      refine x_iconst (q209c0 38 rfl) ?_
      refine x_icmp_ne_t (q209c0 39 rfl) c8 ?_
      refine x_iload (q209c0 44 rfl) rfl ?_
      exact x_ireti (q209c0 45 rfl) zb209 H
    · replace H := H.2 c8
      refine x_aload_n (q209c0 17 rfl) rfl ?_
      refine x_getr (q209c0 18 rfl) fd0_2 ?_
      refine x_cvi (q209c0 19 rfl) rfl oc11 rfl (Nat.le_of_ble_eq_true rfl) (am_lifti (Nat.le_of_ble_eq_true rfl) (e_Forms_size (r1 := h5 11 0) (rfl) ?_))
      refine x_bipush (q209c0 20 rfl) ?_
      refine x_icmp_lt (q209c0 21 rfl) (fun c11 => ?_) (fun c11 => ?_)
      · replace H := H.1 c11
        refine x_aload_n (q209c0 26 rfl) rfl ?_
        refine x_getr (q209c0 27 rfl) fd0_10 ?_
        refine x_iconst (q209c0 28 rfl) ?_
        refine x_iconst (q209c0 29 rfl) ?_
        refine x_iload (q209c0 30 rfl) rfl ?_
        refine x_iconst (q209c0 31 rfl) ?_
        refine x_icmp_ne_f (q209c0 32 rfl) c8 ?_
        refine x_iconst (q209c0 33 rfl) ?_
        refine x_goto (q209c0 34 rfl) ?_
        obtain ⟨h12, w13, H⟩ := H
        refine x_cvv (q209c0 36 rfl) rfl oc51 rfl (Nat.le_of_ble_eq_true rfl) ⟨h12, w13, ?_⟩
        refine x_iload (q209c0 37 rfl) rfl ?_
        refine x_iconst (q209c0 38 rfl) ?_
        refine x_icmp_ne_f (q209c0 39 rfl) c8 ?_
        refine x_aload_n (q209c0 40 rfl) rfl ?_
        refine x_getr (q209c0 41 rfl) fd0_2 ?_
        obtain ⟨a15, h14, w16, H⟩ := H
        refine x_cvi (q209c0 42 rfl) rfl oc11 rfl (Nat.le_of_ble_eq_true rfl) ⟨a15, h14, w16, ?_⟩
        refine x_goto (q209c0 43 rfl) ?_
        exact x_ireti (q209c0 45 rfl) zb209 H
      · replace H := H.2 c11
        refine x_aload_n (q209c0 22 rfl) rfl ?_
        refine x_ldc (q209c0 23 rfl) ?_
        refine x_cvi (q209c0 24 rfl) rfl oc0 rfl (Nat.le_of_ble_eq_true rfl) (am_lifti (Nat.le_of_ble_eq_true rfl) (e_At_finding (r1 := h5 0 13) (rfl) ?_))
        obtain ⟨s17, H⟩ := H
        refine ⟨s17, ?_⟩
        exact x_ireti (q209c0 25 rfl) zb209 H
  · replace H := H.2 c4
    refine x_aload_n (q209c0 6 rfl) rfl ?_
    refine x_ldc (q209c0 7 rfl) ?_
    refine x_cvi (q209c0 8 rfl) rfl oc0 rfl (Nat.le_of_ble_eq_true rfl) (am_lifti (Nat.le_of_ble_eq_true rfl) (e_At_finding (r1 := h1 0 13) (rfl) ?_))
    obtain ⟨s18, H⟩ := H
    refine ⟨s18, ?_⟩
    exact x_ireti (q209c0 9 rfl) zb209 H
theorem e_At_text {h : am_H} {x1 : Int} {P : Int → am_H → Prop} (H : ((0 ≤ x1 ∧ x1 < 4) → (∃ a3 h2, am_cd 4 182 [.inr (.inr 24), .inl x1] h (some (.inl a3)) h2 ∧ P a3 h2)) ∧ ((¬(0 ≤ x1 ∧ x1 < 4)) → ((am_ok (h 0 13 + 1)) ∧ P (-100001) (am_up h 0 13 (h 0 13 + 1))))) : ∃ a h1, am_cd 5 210 [.inr (.inr 0), .inl x1] h (some (.inl a)) h1 ∧ P a h1 := by
  refine am_outi (d := 4) (ls := [some (.inr (.inr 0)), some (.inl x1)]) rfl ab210 ml210 (Nat.le_of_ble_eq_true rfl) np210 rfl ?_
  refine x_iload_n (q210c0 0 rfl) rfl ?_
  refine x_csi (q210c0 1 rfl) rfl rfl rfl (Nat.le_of_ble_eq_true rfl) (am_lifti (Nat.le_of_ble_eq_true rfl) (e_Texts_isText   ?_))
  refine ⟨fun c1 => ?_, fun c1 => ?_⟩
  · replace H := H.1 c1
    refine x_if_ne_t (q210c0 2 rfl) (by decide) ?_
    refine x_aload_n (q210c0 7 rfl) rfl ?_
    refine x_getr (q210c0 8 rfl) fd0_4 ?_
    refine x_iload_n (q210c0 9 rfl) rfl ?_
    obtain ⟨a3, h2, w4, H⟩ := H
    refine x_cvi (q210c0 10 rfl) rfl oc24 rfl (Nat.le_of_ble_eq_true rfl) ⟨a3, h2, w4, ?_⟩
    exact x_ireti (q210c0 11 rfl) zb210 H
  · replace H := H.2 c1
    refine x_if_ne_f (q210c0 2 rfl) (by decide) ?_
    refine x_aload_n (q210c0 3 rfl) rfl ?_
    refine x_ldc (q210c0 4 rfl) ?_
    refine x_cvi (q210c0 5 rfl) rfl oc0 rfl (Nat.le_of_ble_eq_true rfl) (am_lifti (Nat.le_of_ble_eq_true rfl) (e_At_finding (r1 := h 0 13) (rfl) ?_))
    obtain ⟨s5, H⟩ := H
    refine ⟨s5, ?_⟩
    exact x_ireti (q210c0 6 rfl) zb210 H
theorem e_At_explains {h : am_H} {x1 : Int} {x2 : Int} {x3 : Int} {P : Int → am_H → Prop} (H : ((0 ≤ x1 ∧ x1 < h 1 0) → (((0 ≤ x2 ∧ x2 < 6) → (((0 ≤ x3 ∧ x3 < h 11 0) → (∃ a5 h4, am_cd 4 139 [.inr (.inr 17), .inl x1, .inl x2, .inl (h 0 12)] h (some (.inl a5)) h4 ∧ ((a5 ≠ (-1) → am_x (am_cd 4) 211 (am_qi P) 0 67 [some (.inr (.inr 0)), none, none, some (.inl x3), some (.inl a5), some (.inl 0)] [] h4) ∧ (a5 = (-1) → ((am_ok (h4 0 13 + 1)) ∧ P (-100002) (am_up h4 0 13 (h4 0 13 + 1))))))) ∧ ((¬(0 ≤ x3 ∧ x3 < h 11 0)) → ((am_ok (h 0 13 + 1)) ∧ P (-100001) (am_up h 0 13 (h 0 13 + 1)))))) ∧ ((¬(0 ≤ x2 ∧ x2 < 6)) → ((am_ok (h 0 13 + 1)) ∧ P (-100001) (am_up h 0 13 (h 0 13 + 1)))))) ∧ ((¬(0 ≤ x1 ∧ x1 < h 1 0)) → ((am_ok (h 0 13 + 1)) ∧ P (-100001) (am_up h 0 13 (h 0 13 + 1))))) : ∃ a h1, am_cd 5 211 [.inr (.inr 0), .inl x1, .inl x2, .inl x3] h (some (.inl a)) h1 ∧ P a h1 := by
  refine am_outi (d := 4) (ls := [some (.inr (.inr 0)), some (.inl x1), some (.inl x2), some (.inl x3), none, none]) rfl ab211 ml211 (Nat.le_of_ble_eq_true rfl) np211 rfl ?_
  refine x_aload_n (q211c0 0 rfl) rfl ?_
  refine x_getr (q211c0 1 rfl) fd0_0 ?_
  refine x_iload_n (q211c0 2 rfl) rfl ?_
  refine x_cvi (q211c0 3 rfl) rfl oc1 rfl (Nat.le_of_ble_eq_true rfl) (am_lifti (Nat.le_of_ble_eq_true rfl) (e_Land_has (r1 := h 1 0) (rfl) ?_))
  refine ⟨fun c1 => ?_, fun c1 => ?_⟩
  · replace H := H.1 c1
    refine x_if_eq_f (q211c0 4 rfl) (by decide) ?_
    refine x_iload_n (q211c0 5 rfl) rfl ?_
    refine x_csi (q211c0 6 rfl) rfl rfl rfl (Nat.le_of_ble_eq_true rfl) (am_lifti (Nat.le_of_ble_eq_true rfl) (e_At_isThing   ?_))
    refine ⟨fun c2 => ?_, fun c2 => ?_⟩
    · replace H := H.1 c2
      refine x_if_eq_f (q211c0 7 rfl) (by decide) ?_
      refine x_aload_n (q211c0 8 rfl) rfl ?_
      refine x_getr (q211c0 9 rfl) fd0_2 ?_
      refine x_iload_n (q211c0 10 rfl) rfl ?_
      refine x_cvi (q211c0 11 rfl) rfl oc11 rfl (Nat.le_of_ble_eq_true rfl) (am_lifti (Nat.le_of_ble_eq_true rfl) (e_Forms_has (r1 := h 11 0) (rfl) ?_))
      refine ⟨fun c3 => ?_, fun c3 => ?_⟩
      · replace H := H.1 c3
        refine x_if_ne_t (q211c0 12 rfl) (by decide) ?_
        refine x_aload_n (q211c0 17 rfl) rfl ?_
        refine x_getr (q211c0 18 rfl) fd0_3 ?_
        refine x_iload_n (q211c0 19 rfl) rfl ?_
        refine x_iload_n (q211c0 20 rfl) rfl ?_
        refine x_aload_n (q211c0 21 rfl) rfl ?_
        refine x_getf (q211c0 22 rfl) fd0_12 (rfl) ?_
        obtain ⟨a5, h4, w6, H⟩ := H
        refine x_cvi (q211c0 23 rfl) rfl oc17 rfl (Nat.le_of_ble_eq_true rfl) ⟨a5, h4, w6, ?_⟩
        refine x_istore (q211c0 24 rfl) ⟨Nat.le_of_ble_eq_true rfl, trivial⟩ ?_
        refine x_iload (q211c0 25 rfl) rfl ?_
        refine x_iconst (q211c0 26 rfl) ?_
        refine x_icmp_ne (q211c0 27 rfl) (fun c7 => ?_) (fun c7 => ?_)
        · replace H := H.1 c7
          refine x_iconst (q211c0 32 rfl) ?_
          refine x_istore (q211c0 33 rfl) ⟨Nat.le_of_ble_eq_true rfl, trivial⟩ ?_
          exact am_x_weak (ls' := [some (.inr (.inr 0)), some (.inl x1), some (.inl x2), some (.inl x3), some (.inl a5), some (.inl 0)]) (lle_c (lle_d trivial (lle_d trivial (lle_c (lle_c (lle_c (lle_nil))))))) H
        · replace H := H.2 c7
          refine x_aload_n (q211c0 28 rfl) rfl ?_
          refine x_ldc (q211c0 29 rfl) ?_
          refine x_cvi (q211c0 30 rfl) rfl oc0 rfl (Nat.le_of_ble_eq_true rfl) (am_lifti (Nat.le_of_ble_eq_true rfl) (e_At_finding (r1 := h4 0 13) (rfl) ?_))
          obtain ⟨s8, H⟩ := H
          refine ⟨s8, ?_⟩
          exact x_ireti (q211c0 31 rfl) zb211 H
      · replace H := H.2 c3
        refine x_if_ne_f (q211c0 12 rfl) (by decide) ?_
        refine x_aload_n (q211c0 13 rfl) rfl ?_
        refine x_ldc (q211c0 14 rfl) ?_
        refine x_cvi (q211c0 15 rfl) rfl oc0 rfl (Nat.le_of_ble_eq_true rfl) (am_lifti (Nat.le_of_ble_eq_true rfl) (e_At_finding (r1 := h 0 13) (rfl) ?_))
        obtain ⟨s9, H⟩ := H
        refine ⟨s9, ?_⟩
        exact x_ireti (q211c0 16 rfl) zb211 H
    · replace H := H.2 c2
      refine x_if_eq_t (q211c0 7 rfl) (by decide) ?_
      refine x_aload_n (q211c0 13 rfl) rfl ?_
      refine x_ldc (q211c0 14 rfl) ?_
      refine x_cvi (q211c0 15 rfl) rfl oc0 rfl (Nat.le_of_ble_eq_true rfl) (am_lifti (Nat.le_of_ble_eq_true rfl) (e_At_finding (r1 := h 0 13) (rfl) ?_))
      obtain ⟨s10, H⟩ := H
      refine ⟨s10, ?_⟩
      exact x_ireti (q211c0 16 rfl) zb211 H
  · replace H := H.2 c1
    refine x_if_eq_t (q211c0 4 rfl) (by decide) ?_
    refine x_aload_n (q211c0 13 rfl) rfl ?_
    refine x_ldc (q211c0 14 rfl) ?_
    refine x_cvi (q211c0 15 rfl) rfl oc0 rfl (Nat.le_of_ble_eq_true rfl) (am_lifti (Nat.le_of_ble_eq_true rfl) (e_At_finding (r1 := h 0 13) (rfl) ?_))
    obtain ⟨s11, H⟩ := H
    refine ⟨s11, ?_⟩
    exact x_ireti (q211c0 16 rfl) zb211 H
theorem g_At_explains_67 {h : am_H} {x3 : Int} {x4 : Int} {x5 : Int} {P : Int → am_H → Prop} (H : (4 ≤ x5 → ((am_ok (h 0 13 + 1)) ∧ P (-100006) (am_up h 0 13 (h 0 13 + 1)))) ∧ (x5 < 4 → (∃ a4 h3, am_cd 4 183 [.inr (.inr 24), .inl x3, .inl x5] h (some (.inl a4)) h3 ∧ ((a4 ≠ x4 → ((am_ok (x5 + 1)) ∧ am_x (am_cd 4) 211 (am_qi P) 0 67 [some (.inr (.inr 0)), none, none, some (.inl x3), some (.inl x4), some (.inl (x5 + 1))] [] h3)) ∧ (a4 = x4 → P x5 h3))))) : am_x (am_cd 4) 211 (am_qi P) 0 67 [some (.inr (.inr 0)), none, none, some (.inl x3), some (.inl x4), some (.inl x5)] [] h := by
  refine x_iload (q211c0 34 rfl) rfl ?_
  refine x_iconst (q211c0 35 rfl) ?_
  refine x_icmp_ge (q211c0 36 rfl) (fun c1 => ?_) (fun c1 => ?_)
  · replace H := H.1 c1
    refine x_aload_n (q211c0 48 rfl) rfl ?_
    refine x_ldc (q211c0 49 rfl) ?_
    refine x_cvi (q211c0 50 rfl) rfl oc0 rfl (Nat.le_of_ble_eq_true rfl) (am_lifti (Nat.le_of_ble_eq_true rfl) (e_At_finding (r1 := h 0 13) (rfl) ?_))
    obtain ⟨s2, H⟩ := H
    refine ⟨s2, ?_⟩
    exact x_ireti (q211c0 51 rfl) zb211 H
  · replace H := H.2 c1
    refine x_aload_n (q211c0 37 rfl) rfl ?_
    refine x_getr (q211c0 38 rfl) fd0_4 ?_
    refine x_iload_n (q211c0 39 rfl) rfl ?_
    refine x_iload (q211c0 40 rfl) rfl ?_
    obtain ⟨a4, h3, w5, H⟩ := H
    refine x_cvi (q211c0 41 rfl) rfl oc24 rfl (Nat.le_of_ble_eq_true rfl) ⟨a4, h3, w5, ?_⟩
    refine x_iload (q211c0 42 rfl) rfl ?_
    refine x_icmp_ne (q211c0 43 rfl) (fun c6 => ?_) (fun c6 => ?_)
    · replace H := H.1 c6
      obtain ⟨s7, H⟩ := H
      refine x_iinc (q211c0 46 rfl) rfl ⟨Nat.le_of_ble_eq_true rfl, trivial⟩ s7 ?_
      refine x_goto (q211c0 47 rfl) ?_
      exact H
    · replace H := H.2 c6
      refine x_iload (q211c0 44 rfl) rfl ?_
      exact x_ireti (q211c0 45 rfl) zb211 H
theorem e_At_covers {h : am_H} {x1 : Int} {x2 : Int} {x3 : Int} {P : Int → am_H → Prop} (H : ((0 ≤ x1 ∧ x1 < 4) → (((0 ≤ x2 ∧ x2 < 6) → (((0 ≤ x3 ∧ x3 < h 11 0) → (∃ a5 h4, am_cd 4 183 [.inr (.inr 24), .inl x3, .inl x1] h (some (.inl a5)) h4 ∧ am_x (am_cd 4) 212 (am_qi P) 0 49 [some (.inr (.inr 0)), none, some (.inl x2), none, some (.inl a5), some (.inl 0), some (.inl 0)] [] h4)) ∧ ((¬(0 ≤ x3 ∧ x3 < h 11 0)) → ((am_ok (h 0 13 + 1)) ∧ P (-100001) (am_up h 0 13 (h 0 13 + 1)))))) ∧ ((¬(0 ≤ x2 ∧ x2 < 6)) → ((am_ok (h 0 13 + 1)) ∧ P (-100001) (am_up h 0 13 (h 0 13 + 1)))))) ∧ ((¬(0 ≤ x1 ∧ x1 < 4)) → ((am_ok (h 0 13 + 1)) ∧ P (-100001) (am_up h 0 13 (h 0 13 + 1))))) : ∃ a h1, am_cd 5 212 [.inr (.inr 0), .inl x1, .inl x2, .inl x3] h (some (.inl a)) h1 ∧ P a h1 := by
  refine am_outi (d := 4) (ls := [some (.inr (.inr 0)), some (.inl x1), some (.inl x2), some (.inl x3), none, none, none]) rfl ab212 ml212 (Nat.le_of_ble_eq_true rfl) np212 rfl ?_
  refine x_iload_n (q212c0 0 rfl) rfl ?_
  refine x_csi (q212c0 1 rfl) rfl rfl rfl (Nat.le_of_ble_eq_true rfl) (am_lifti (Nat.le_of_ble_eq_true rfl) (e_Texts_isText   ?_))
  refine ⟨fun c1 => ?_, fun c1 => ?_⟩
  · replace H := H.1 c1
    refine x_if_eq_f (q212c0 2 rfl) (by decide) ?_
    refine x_iload_n (q212c0 3 rfl) rfl ?_
    refine x_csi (q212c0 4 rfl) rfl rfl rfl (Nat.le_of_ble_eq_true rfl) (am_lifti (Nat.le_of_ble_eq_true rfl) (e_At_isThing   ?_))
    refine ⟨fun c2 => ?_, fun c2 => ?_⟩
    · replace H := H.1 c2
      refine x_if_eq_f (q212c0 5 rfl) (by decide) ?_
      refine x_aload_n (q212c0 6 rfl) rfl ?_
      refine x_getr (q212c0 7 rfl) fd0_2 ?_
      refine x_iload_n (q212c0 8 rfl) rfl ?_
      refine x_cvi (q212c0 9 rfl) rfl oc11 rfl (Nat.le_of_ble_eq_true rfl) (am_lifti (Nat.le_of_ble_eq_true rfl) (e_Forms_has (r1 := h 11 0) (rfl) ?_))
      refine ⟨fun c3 => ?_, fun c3 => ?_⟩
      · replace H := H.1 c3
        refine x_if_ne_t (q212c0 10 rfl) (by decide) ?_
        refine x_aload_n (q212c0 15 rfl) rfl ?_
        refine x_getr (q212c0 16 rfl) fd0_4 ?_
        refine x_iload_n (q212c0 17 rfl) rfl ?_
        refine x_iload_n (q212c0 18 rfl) rfl ?_
        obtain ⟨a5, h4, w6, H⟩ := H
        refine x_cvi (q212c0 19 rfl) rfl oc24 rfl (Nat.le_of_ble_eq_true rfl) ⟨a5, h4, w6, ?_⟩
        refine x_istore (q212c0 20 rfl) ⟨Nat.le_of_ble_eq_true rfl, trivial⟩ ?_
        refine x_iconst (q212c0 21 rfl) ?_
        refine x_istore (q212c0 22 rfl) ⟨Nat.le_of_ble_eq_true rfl, trivial⟩ ?_
        refine x_iconst (q212c0 23 rfl) ?_
        refine x_istore (q212c0 24 rfl) ⟨Nat.le_of_ble_eq_true rfl, trivial⟩ ?_
        exact am_x_weak (ls' := [some (.inr (.inr 0)), some (.inl x1), some (.inl x2), some (.inl x3), some (.inl a5), some (.inl 0), some (.inl 0)]) (lle_c (lle_d trivial (lle_c (lle_d trivial (lle_c (lle_c (lle_c (lle_nil)))))))) H
      · replace H := H.2 c3
        refine x_if_ne_f (q212c0 10 rfl) (by decide) ?_
        refine x_aload_n (q212c0 11 rfl) rfl ?_
        refine x_ldc (q212c0 12 rfl) ?_
        refine x_cvi (q212c0 13 rfl) rfl oc0 rfl (Nat.le_of_ble_eq_true rfl) (am_lifti (Nat.le_of_ble_eq_true rfl) (e_At_finding (r1 := h 0 13) (rfl) ?_))
        obtain ⟨s7, H⟩ := H
        refine ⟨s7, ?_⟩
        exact x_ireti (q212c0 14 rfl) zb212 H
    · replace H := H.2 c2
      refine x_if_eq_t (q212c0 5 rfl) (by decide) ?_
      refine x_aload_n (q212c0 11 rfl) rfl ?_
      refine x_ldc (q212c0 12 rfl) ?_
      refine x_cvi (q212c0 13 rfl) rfl oc0 rfl (Nat.le_of_ble_eq_true rfl) (am_lifti (Nat.le_of_ble_eq_true rfl) (e_At_finding (r1 := h 0 13) (rfl) ?_))
      obtain ⟨s8, H⟩ := H
      refine ⟨s8, ?_⟩
      exact x_ireti (q212c0 14 rfl) zb212 H
  · replace H := H.2 c1
    refine x_if_eq_t (q212c0 2 rfl) (by decide) ?_
    refine x_aload_n (q212c0 11 rfl) rfl ?_
    refine x_ldc (q212c0 12 rfl) ?_
    refine x_cvi (q212c0 13 rfl) rfl oc0 rfl (Nat.le_of_ble_eq_true rfl) (am_lifti (Nat.le_of_ble_eq_true rfl) (e_At_finding (r1 := h 0 13) (rfl) ?_))
    obtain ⟨s9, H⟩ := H
    refine ⟨s9, ?_⟩
    exact x_ireti (q212c0 14 rfl) zb212 H
theorem g_At_covers_49 {h : am_H} {x2 : Int} {x4 : Int} {x5 : Int} {x6 : Int} {P : Int → am_H → Prop} (H : (h 1 0 ≤ x6 → P x5 h) ∧ (x6 < h 1 0 → ((x4 = (-1) → P x5 h) ∧ (x4 ≠ (-1) → (∃ a4 h3, am_cd 4 139 [.inr (.inr 17), .inl x6, .inl x2, .inl (h 0 12)] h (some (.inl a4)) h3 ∧ ((a4 ≠ x4 → ((am_ok (x6 + 1)) ∧ am_x (am_cd 4) 212 (am_qi P) 0 49 [some (.inr (.inr 0)), none, some (.inl x2), none, some (.inl x4), some (.inl x5), some (.inl (x6 + 1))] [] h3)) ∧ (a4 = x4 → ((am_ok (x5 + 1) ∧ am_ok (x6 + 1)) ∧ am_x (am_cd 4) 212 (am_qi P) 0 49 [some (.inr (.inr 0)), none, some (.inl x2), none, some (.inl x4), some (.inl (x5 + 1)), some (.inl (x6 + 1))] [] h3)))))))) : am_x (am_cd 4) 212 (am_qi P) 0 49 [some (.inr (.inr 0)), none, some (.inl x2), none, some (.inl x4), some (.inl x5), some (.inl x6)] [] h := by
  refine x_iload (q212c0 25 rfl) rfl ?_
  refine x_aload_n (q212c0 26 rfl) rfl ?_
  refine x_getr (q212c0 27 rfl) fd0_0 ?_
  refine x_cvi (q212c0 28 rfl) rfl oc1 rfl (Nat.le_of_ble_eq_true rfl) (am_lifti (Nat.le_of_ble_eq_true rfl) (e_Land_size (r1 := h 1 0) (rfl) ?_))
  refine x_icmp_ge (q212c0 29 rfl) (fun c1 => ?_) (fun c1 => ?_)
  · replace H := H.1 c1
    refine x_iload (q212c0 45 rfl) rfl ?_
    exact x_ireti (q212c0 46 rfl) zb212 H
  · replace H := H.2 c1
    refine x_iload (q212c0 30 rfl) rfl ?_
    refine x_iconst (q212c0 31 rfl) ?_
    refine x_icmp_eq (q212c0 32 rfl) (fun c2 => ?_) (fun c2 => ?_)
    · replace H := H.1 c2
      refine x_iload (q212c0 45 rfl) rfl ?_
      exact x_ireti (q212c0 46 rfl) zb212 H
    · replace H := H.2 c2
      refine x_aload_n (q212c0 33 rfl) rfl ?_
      refine x_getr (q212c0 34 rfl) fd0_3 ?_
      refine x_iload (q212c0 35 rfl) rfl ?_
      refine x_iload_n (q212c0 36 rfl) rfl ?_
      refine x_aload_n (q212c0 37 rfl) rfl ?_
      refine x_getf (q212c0 38 rfl) fd0_12 (rfl) ?_
      obtain ⟨a4, h3, w5, H⟩ := H
      refine x_cvi (q212c0 39 rfl) rfl oc17 rfl (Nat.le_of_ble_eq_true rfl) ⟨a4, h3, w5, ?_⟩
      refine x_iload (q212c0 40 rfl) rfl ?_
      refine x_icmp_ne (q212c0 41 rfl) (fun c6 => ?_) (fun c6 => ?_)
      · replace H := H.1 c6
        obtain ⟨s7, H⟩ := H
        refine x_iinc (q212c0 43 rfl) rfl ⟨Nat.le_of_ble_eq_true rfl, trivial⟩ s7 ?_
        refine x_goto (q212c0 44 rfl) ?_
        exact H
      · replace H := H.2 c6
        obtain ⟨⟨s8, s9⟩, H⟩ := H
        refine x_iinc (q212c0 42 rfl) rfl ⟨Nat.le_of_ble_eq_true rfl, trivial⟩ s8 ?_
        refine x_iinc (q212c0 43 rfl) rfl ⟨Nat.le_of_ble_eq_true rfl, trivial⟩ s9 ?_
        refine x_goto (q212c0 44 rfl) ?_
        exact H
theorem e_At_spread {h : am_H} {x1 : Int} {x2 : Int} {P : Int → am_H → Prop} (H : (am_ok (am_shl 1 (h 1 0) - 1)) ∧ ((am_and x1 (am_xor (am_shl 1 (h 1 0) - 1) (-1)) = 0 → ((x2 < 0 → ((am_ok (h 0 13 + 1)) ∧ P (-100001) (am_up h 0 13 (h 0 13 + 1)))) ∧ (0 ≤ x2 → ((x2 ≤ 30 → (∃ h6, am_cd 4 181 [.inr (.inr 44)] h none h6 ∧ (∃ a9 h8, am_cd 4 148 [.inr (.inr 44), .inl x1, .inl x2] h6 (some (.inl a9)) h8 ∧ P a9 h8))) ∧ (30 < x2 → ((am_ok (h 0 13 + 1)) ∧ P (-100001) (am_up h 0 13 (h 0 13 + 1)))))))) ∧ (am_and x1 (am_xor (am_shl 1 (h 1 0) - 1) (-1)) ≠ 0 → ((am_ok (h 0 13 + 1)) ∧ P (-100001) (am_up h 0 13 (h 0 13 + 1)))))) : ∃ a h1, am_cd 5 213 [.inr (.inr 0), .inl x1, .inl x2] h (some (.inl a)) h1 ∧ P a h1 := by
  refine am_outi (d := 4) (ls := [some (.inr (.inr 0)), some (.inl x1), some (.inl x2)]) rfl ab213 ml213 (Nat.le_of_ble_eq_true rfl) np213 rfl ?_
  refine x_aload_n (q213c0 0 rfl) rfl ?_
  refine x_getr (q213c0 1 rfl) fd0_0 ?_
  refine x_iload_n (q213c0 2 rfl) rfl ?_
  refine x_cvi (q213c0 3 rfl) rfl oc1 rfl (Nat.le_of_ble_eq_true rfl) (am_lifti (Nat.le_of_ble_eq_true rfl) (e_Land_hasAll (r1 := h 1 0) (rfl) ?_))
  obtain ⟨s1, H⟩ := H
  refine ⟨s1, ?_⟩
  refine ⟨fun c2 => ?_, fun c2 => ?_⟩
  · replace H := H.1 c2
    refine x_if_eq_f (q213c0 4 rfl) (by decide) ?_
    refine x_iload_n (q213c0 5 rfl) rfl ?_
    refine x_if_lt (q213c0 6 rfl) (fun c3 => ?_) (fun c3 => ?_)
    · replace H := H.1 c3
      refine x_aload_n (q213c0 10 rfl) rfl ?_
      refine x_ldc (q213c0 11 rfl) ?_
      refine x_cvi (q213c0 12 rfl) rfl oc0 rfl (Nat.le_of_ble_eq_true rfl) (am_lifti (Nat.le_of_ble_eq_true rfl) (e_At_finding (r1 := h 0 13) (rfl) ?_))
      obtain ⟨s4, H⟩ := H
      refine ⟨s4, ?_⟩
      exact x_ireti (q213c0 13 rfl) zb213 H
    · replace H := H.2 c3
      refine x_iload_n (q213c0 7 rfl) rfl ?_
      refine x_bipush (q213c0 8 rfl) ?_
      refine x_icmp_le (q213c0 9 rfl) (fun c5 => ?_) (fun c5 => ?_)
      · replace H := H.1 c5
        refine x_aload_n (q213c0 14 rfl) rfl ?_
        refine x_getr (q213c0 15 rfl) fd0_8 ?_
        obtain ⟨h6, w7, H⟩ := H
        refine x_cvv (q213c0 16 rfl) rfl oc44 rfl (Nat.le_of_ble_eq_true rfl) ⟨h6, w7, ?_⟩
        refine x_aload_n (q213c0 17 rfl) rfl ?_
        refine x_getr (q213c0 18 rfl) fd0_8 ?_
        refine x_iload_n (q213c0 19 rfl) rfl ?_
        refine x_iload_n (q213c0 20 rfl) rfl ?_
        obtain ⟨a9, h8, w10, H⟩ := H
        refine x_cvi (q213c0 21 rfl) rfl oc44 rfl (Nat.le_of_ble_eq_true rfl) ⟨a9, h8, w10, ?_⟩
        exact x_ireti (q213c0 22 rfl) zb213 H
      · replace H := H.2 c5
        refine x_aload_n (q213c0 10 rfl) rfl ?_
        refine x_ldc (q213c0 11 rfl) ?_
        refine x_cvi (q213c0 12 rfl) rfl oc0 rfl (Nat.le_of_ble_eq_true rfl) (am_lifti (Nat.le_of_ble_eq_true rfl) (e_At_finding (r1 := h 0 13) (rfl) ?_))
        obtain ⟨s11, H⟩ := H
        refine ⟨s11, ?_⟩
        exact x_ireti (q213c0 13 rfl) zb213 H
  · replace H := H.2 c2
    refine x_if_eq_t (q213c0 4 rfl) (by decide) ?_
    refine x_aload_n (q213c0 10 rfl) rfl ?_
    refine x_ldc (q213c0 11 rfl) ?_
    refine x_cvi (q213c0 12 rfl) rfl oc0 rfl (Nat.le_of_ble_eq_true rfl) (am_lifti (Nat.le_of_ble_eq_true rfl) (e_At_finding (r1 := h 0 13) (rfl) ?_))
    obtain ⟨s12, H⟩ := H
    refine ⟨s12, ?_⟩
    exact x_ireti (q213c0 13 rfl) zb213 H
theorem e_At_count {h : am_H} {x1 : Int} {P : Int → am_H → Prop} (H : (x1 = 0 → P (h 1 0) h) ∧ (x1 ≠ 0 → ((x1 = 1 → (∃ a4 h3, am_cd 4 179 [.inr (.inr 1)] h (some (.inl a4)) h3 ∧ P a4 h3)) ∧ (x1 ≠ 1 → ((x1 = 2 → P (h 7 0) h) ∧ (x1 ≠ 2 → ((x1 = 3 → P (h 11 0) h) ∧ (x1 ≠ 3 → ((x1 = 4 → P (h 17 1) h) ∧ (x1 ≠ 4 → ((x1 = 5 → (∃ a11 h10, am_cd 4 91 [.inr (.inr 17)] h (some (.inl a11)) h10 ∧ P a11 h10)) ∧ (x1 ≠ 5 → ((x1 = 6 → P (h 0 12) h) ∧ (x1 ≠ 6 → ((x1 = 7 → ((am_ok (am_shl 1 (h 1 0) - 1)) ∧ (∃ a17 h16, am_cd 4 44 [.inr (.inr 1), .inl (am_shl 1 (h 1 0) - 1)] h (some (.inl a17)) h16 ∧ P a17 h16))) ∧ (x1 ≠ 7 → ((x1 = 8 → P (h 0 13) h) ∧ (x1 ≠ 8 → ((am_ok (h 0 13 + 1)) ∧ P (-100001) (am_up h 0 13 (h 0 13 + 1))))))))))))))))))))) : ∃ a h1, am_cd 5 214 [.inr (.inr 0), .inl x1] h (some (.inl a)) h1 ∧ P a h1 := by
  refine am_outi (d := 4) (ls := [some (.inr (.inr 0)), some (.inl x1)]) rfl ab214 ml214 (Nat.le_of_ble_eq_true rfl) np214 rfl ?_
  refine x_iload_n (q214c0 0 rfl) rfl ?_
  refine x_tsw (q214c0 1 rfl) (tg := 143) (ts := [52, 62, 72, 82, 92, 102, 112, 119, 136]) rfl rfl ?_
  refine sw_cons (fun c1 => ?_) (fun c1 => ?_)
  · replace H := H.1 c1
    refine x_aload_n (q214c0 2 rfl) rfl ?_
    refine x_getr (q214c0 3 rfl) fd0_0 ?_
    refine x_cvi (q214c0 4 rfl) rfl oc1 rfl (Nat.le_of_ble_eq_true rfl) (am_lifti (Nat.le_of_ble_eq_true rfl) (e_Land_size (r1 := h 1 0) (rfl) ?_))
    refine x_goto (q214c0 5 rfl) ?_
    exact x_ireti (q214c0 42 rfl) zb214 H
  · replace H := H.2 c1
    refine sw_cons (fun c2 => ?_) (fun c2 => ?_)
    · replace H := H.1 c2
      refine x_aload_n (q214c0 6 rfl) rfl ?_
      refine x_getr (q214c0 7 rfl) fd0_0 ?_
      obtain ⟨a4, h3, w5, H⟩ := H
      refine x_cvi (q214c0 8 rfl) rfl oc1 rfl (Nat.le_of_ble_eq_true rfl) ⟨a4, h3, w5, ?_⟩
      refine x_goto (q214c0 9 rfl) ?_
      exact x_ireti (q214c0 42 rfl) zb214 H
    · replace H := H.2 c2
      refine sw_cons (fun c6 => ?_) (fun c6 => ?_)
      · replace H := H.1 c6
        refine x_aload_n (q214c0 10 rfl) rfl ?_
        refine x_getr (q214c0 11 rfl) fd0_1 ?_
        refine x_cvi (q214c0 12 rfl) rfl oc7 rfl (Nat.le_of_ble_eq_true rfl) (am_lifti (Nat.le_of_ble_eq_true rfl) (e_Asked_size (r1 := h 7 0) (rfl) ?_))
        refine x_goto (q214c0 13 rfl) ?_
        exact x_ireti (q214c0 42 rfl) zb214 H
      · replace H := H.2 c6
        refine sw_cons (fun c7 => ?_) (fun c7 => ?_)
        · replace H := H.1 c7
          refine x_aload_n (q214c0 14 rfl) rfl ?_
          refine x_getr (q214c0 15 rfl) fd0_2 ?_
          refine x_cvi (q214c0 16 rfl) rfl oc11 rfl (Nat.le_of_ble_eq_true rfl) (am_lifti (Nat.le_of_ble_eq_true rfl) (e_Forms_size (r1 := h 11 0) (rfl) ?_))
          refine x_goto (q214c0 17 rfl) ?_
          exact x_ireti (q214c0 42 rfl) zb214 H
        · replace H := H.2 c7
          refine sw_cons (fun c8 => ?_) (fun c8 => ?_)
          · replace H := H.1 c8
            refine x_aload_n (q214c0 18 rfl) rfl ?_
            refine x_getr (q214c0 19 rfl) fd0_3 ?_
            refine x_cvi (q214c0 20 rfl) rfl oc17 rfl (Nat.le_of_ble_eq_true rfl) (am_lifti (Nat.le_of_ble_eq_true rfl) (e_Answers_size (r1 := h 17 1) (rfl) ?_))
            refine x_goto (q214c0 21 rfl) ?_
            exact x_ireti (q214c0 42 rfl) zb214 H
          · replace H := H.2 c8
            refine sw_cons (fun c9 => ?_) (fun c9 => ?_)
            · replace H := H.1 c9
              refine x_aload_n (q214c0 22 rfl) rfl ?_
              refine x_getr (q214c0 23 rfl) fd0_3 ?_
              obtain ⟨a11, h10, w12, H⟩ := H
              refine x_cvi (q214c0 24 rfl) rfl oc17 rfl (Nat.le_of_ble_eq_true rfl) ⟨a11, h10, w12, ?_⟩
              refine x_goto (q214c0 25 rfl) ?_
              exact x_ireti (q214c0 42 rfl) zb214 H
            · replace H := H.2 c9
              refine sw_cons (fun c13 => ?_) (fun c13 => ?_)
              · replace H := H.1 c13
                refine x_aload_n (q214c0 26 rfl) rfl ?_
                refine x_getf (q214c0 27 rfl) fd0_12 (rfl) ?_
                refine x_goto (q214c0 28 rfl) ?_
                exact x_ireti (q214c0 42 rfl) zb214 H
              · replace H := H.2 c13
                refine sw_cons (fun c14 => ?_) (fun c14 => ?_)
                · replace H := H.1 c14
                  refine x_aload_n (q214c0 29 rfl) rfl ?_
                  refine x_getr (q214c0 30 rfl) fd0_0 ?_
                  refine x_aload_n (q214c0 31 rfl) rfl ?_
                  refine x_getr (q214c0 32 rfl) fd0_0 ?_
                  refine x_cvi (q214c0 33 rfl) rfl oc1 rfl (Nat.le_of_ble_eq_true rfl) (am_lifti (Nat.le_of_ble_eq_true rfl) (e_Land_all (r1 := h 1 0) (rfl) ?_))
                  obtain ⟨s15, H⟩ := H
                  refine ⟨s15, ?_⟩
                  obtain ⟨a17, h16, w18, H⟩ := H
                  refine x_cvi (q214c0 34 rfl) rfl oc1 rfl (Nat.le_of_ble_eq_true rfl) ⟨a17, h16, w18, ?_⟩
                  refine x_goto (q214c0 35 rfl) ?_
                  exact x_ireti (q214c0 42 rfl) zb214 H
                · replace H := H.2 c14
                  refine sw_cons (fun c19 => ?_) (fun c19 => ?_)
                  · replace H := H.1 c19
                    refine x_aload_n (q214c0 36 rfl) rfl ?_
                    refine x_getf (q214c0 37 rfl) fd0_13 (rfl) ?_
                    refine x_goto (q214c0 38 rfl) ?_
                    exact x_ireti (q214c0 42 rfl) zb214 H
                  · replace H := H.2 c19
                    refine sw_nil ?_
                    refine x_aload_n (q214c0 39 rfl) rfl ?_
                    refine x_ldc (q214c0 40 rfl) ?_
                    refine x_cvi (q214c0 41 rfl) rfl oc0 rfl (Nat.le_of_ble_eq_true rfl) (am_lifti (Nat.le_of_ble_eq_true rfl) (e_At_finding (r1 := h 0 13) (rfl) ?_))
                    obtain ⟨s20, H⟩ := H
                    refine ⟨s20, ?_⟩
                    exact x_ireti (q214c0 42 rfl) zb214 H
theorem e_At_farthest {h : am_H} {x1 : Int} {P : Int → am_H → Prop} (H : (am_ok (am_shl 1 (h 1 0) - 1)) ∧ (∃ h2, am_cd 4 180 [.inr (.inr 1), .inl (am_and (am_shl 1 (h 1 0) - 1) (am_xor x1 (-1)))] h none h2 ∧ am_x (am_cd 4) 215 (am_qi P) 0 22 [some (.inr (.inr 0)), some (.inl x1), some (.inl (-1)), some (.inl 0)] [] h2)) : ∃ a h1, am_cd 5 215 [.inr (.inr 0), .inl x1] h (some (.inl a)) h1 ∧ P a h1 := by
  refine am_outi (d := 4) (ls := [some (.inr (.inr 0)), some (.inl x1), none, none]) rfl ab215 ml215 (Nat.le_of_ble_eq_true rfl) np215 rfl ?_
  refine x_aload_n (q215c0 0 rfl) rfl ?_
  refine x_getr (q215c0 1 rfl) fd0_0 ?_
  refine x_aload_n (q215c0 2 rfl) rfl ?_
  refine x_getr (q215c0 3 rfl) fd0_0 ?_
  refine x_cvi (q215c0 4 rfl) rfl oc1 rfl (Nat.le_of_ble_eq_true rfl) (am_lifti (Nat.le_of_ble_eq_true rfl) (e_Land_all (r1 := h 1 0) (rfl) ?_))
  obtain ⟨s1, H⟩ := H
  refine ⟨s1, ?_⟩
  refine x_iload_n (q215c0 5 rfl) rfl ?_
  refine x_iconst (q215c0 6 rfl) ?_
  refine x_ixor (q215c0 7 rfl) ?_
  refine x_iand (q215c0 8 rfl) ?_
  obtain ⟨h2, w3, H⟩ := H
  refine x_cvv (q215c0 9 rfl) rfl oc1 rfl (Nat.le_of_ble_eq_true rfl) ⟨h2, w3, ?_⟩
  refine x_iconst (q215c0 10 rfl) ?_
  refine x_istore_n (q215c0 11 rfl) ⟨Nat.le_of_ble_eq_true rfl, trivial⟩ ?_
  refine x_iconst (q215c0 12 rfl) ?_
  refine x_istore_n (q215c0 13 rfl) ⟨Nat.le_of_ble_eq_true rfl, trivial⟩ ?_
  exact H
theorem g_At_farthest_22 {h : am_H} {x1 : Int} {x2 : Int} {x3 : Int} {P : Int → am_H → Prop} (H : (h 1 0 ≤ x3 → P x2 h) ∧ (x3 < h 1 0 → ((am_and x1 (am_shl 1 x3) = 0 → ((am_ok (x3 + 1)) ∧ am_x (am_cd 4) 215 (am_qi P) 0 22 [some (.inr (.inr 0)), some (.inl x1), some (.inl x2), some (.inl (x3 + 1))] [] h)) ∧ (am_and x1 (am_shl 1 x3) ≠ 0 → ((x2 = (-1) → ((am_ok (x3 + 1)) ∧ am_x (am_cd 4) 215 (am_qi P) 0 22 [some (.inr (.inr 0)), some (.inl x1), some (.inl x3), some (.inl (x3 + 1))] [] h)) ∧ (x2 ≠ (-1) → (((0 ≤ x3 ∧ x3 < 12) ∧ (0 ≤ x2 ∧ x2 < 12)) ∧ (((h 6 x2 < h 6 x3 ∨ (h 6 x3 = h 6 x2 ∧ h 4 x2 < h 4 x3)) → ((am_ok (x3 + 1)) ∧ am_x (am_cd 4) 215 (am_qi P) 0 22 [some (.inr (.inr 0)), some (.inl x1), some (.inl x3), some (.inl (x3 + 1))] [] h)) ∧ ((¬(h 6 x2 < h 6 x3 ∨ (h 6 x3 = h 6 x2 ∧ h 4 x2 < h 4 x3))) → ((am_ok (x3 + 1)) ∧ am_x (am_cd 4) 215 (am_qi P) 0 22 [some (.inr (.inr 0)), some (.inl x1), some (.inl x2), some (.inl (x3 + 1))] [] h)))))))))) : am_x (am_cd 4) 215 (am_qi P) 0 22 [some (.inr (.inr 0)), some (.inl x1), some (.inl x2), some (.inl x3)] [] h := by
  refine x_iload_n (q215c0 14 rfl) rfl ?_
  refine x_aload_n (q215c0 15 rfl) rfl ?_
  refine x_getr (q215c0 16 rfl) fd0_0 ?_
  refine x_cvi (q215c0 17 rfl) rfl oc1 rfl (Nat.le_of_ble_eq_true rfl) (am_lifti (Nat.le_of_ble_eq_true rfl) (e_Land_size (r1 := h 1 0) (rfl) ?_))
  refine x_icmp_ge (q215c0 18 rfl) (fun c1 => ?_) (fun c1 => ?_)
  · replace H := H.1 c1
    refine x_iload_n (q215c0 37 rfl) rfl ?_
    exact x_ireti (q215c0 38 rfl) zb215 H
  · replace H := H.2 c1
    refine x_iload_n (q215c0 19 rfl) rfl ?_
    refine x_iconst (q215c0 20 rfl) ?_
    refine x_iload_n (q215c0 21 rfl) rfl ?_
    refine x_ishl (q215c0 22 rfl) ?_
    refine x_iand (q215c0 23 rfl) ?_
    refine x_if_eq (q215c0 24 rfl) (fun c2 => ?_) (fun c2 => ?_)
    · replace H := H.1 c2
      obtain ⟨s3, H⟩ := H
      refine x_iinc (q215c0 35 rfl) rfl ⟨Nat.le_of_ble_eq_true rfl, trivial⟩ s3 ?_
      refine x_goto (q215c0 36 rfl) ?_
      exact H
    · replace H := H.2 c2
      refine x_iload_n (q215c0 25 rfl) rfl ?_
      refine x_iconst (q215c0 26 rfl) ?_
      refine x_icmp_eq (q215c0 27 rfl) (fun c4 => ?_) (fun c4 => ?_)
      · replace H := H.1 c4
        obtain ⟨s5, H⟩ := H
        refine x_iload_n (q215c0 33 rfl) rfl ?_
        refine x_istore_n (q215c0 34 rfl) ⟨Nat.le_of_ble_eq_true rfl, trivial⟩ ?_
        refine x_iinc (q215c0 35 rfl) rfl ⟨Nat.le_of_ble_eq_true rfl, trivial⟩ s5 ?_
        refine x_goto (q215c0 36 rfl) ?_
        exact H
      · replace H := H.2 c4
        refine x_aload_n (q215c0 28 rfl) rfl ?_
        refine x_iload_n (q215c0 29 rfl) rfl ?_
        refine x_iload_n (q215c0 30 rfl) rfl ?_
        refine x_cvi (q215c0 31 rfl) rfl oc0 rfl (Nat.le_of_ble_eq_true rfl) (am_lifti (Nat.le_of_ble_eq_true rfl) (e_At_isRather (r1 := h 6 x3) (r2 := h 6 x2) (r3 := h 4 x3) (r4 := h 4 x2) (rfl) (rfl) (rfl) (rfl) ?_))
        obtain ⟨⟨s6, s7⟩, H⟩ := H
        refine ⟨⟨s6, s7⟩, ?_⟩
        refine ⟨fun c8 => ?_, fun c8 => ?_⟩
        · replace H := H.1 c8
          obtain ⟨s9, H⟩ := H
          refine x_if_eq_f (q215c0 32 rfl) (by decide) ?_
          refine x_iload_n (q215c0 33 rfl) rfl ?_
          refine x_istore_n (q215c0 34 rfl) ⟨Nat.le_of_ble_eq_true rfl, trivial⟩ ?_
          refine x_iinc (q215c0 35 rfl) rfl ⟨Nat.le_of_ble_eq_true rfl, trivial⟩ s9 ?_
          refine x_goto (q215c0 36 rfl) ?_
          exact H
        · replace H := H.2 c8
          obtain ⟨s10, H⟩ := H
          refine x_if_eq_t (q215c0 32 rfl) (by decide) ?_
          refine x_iinc (q215c0 35 rfl) rfl ⟨Nat.le_of_ble_eq_true rfl, trivial⟩ s10 ?_
          refine x_goto (q215c0 36 rfl) ?_
          exact H
theorem e_At_sumPulls {h : am_H} {x1 : Int} {x2 : Int} {P : am_H → Prop} (H : ∃ h1, am_cd 4 90 [.inr (.inr 55), .inl (-1)] h none h1 ∧ (∃ h3, am_cd 4 180 [.inr (.inr 1), .inl (am_shl 1 x1)] h1 none h3 ∧ am_x (am_cd 4) 216 (am_qv P) 0 20 [some (.inr (.inr 0)), some (.inl x1), some (.inl x2), some (.inl 0), none] [] h3)) : ∃ h1, am_cd 5 216 [.inr (.inr 0), .inl x1, .inl x2] h none h1 ∧ P h1 := by
  refine am_outv (d := 4) (ls := [some (.inr (.inr 0)), some (.inl x1), some (.inl x2), none, none]) rfl ab216 ml216 (Nat.le_of_ble_eq_true rfl) np216 rfl ?_
  refine x_aload_n (q216c0 0 rfl) rfl ?_
  refine x_getr (q216c0 1 rfl) fd0_11 ?_
  refine x_iconst (q216c0 2 rfl) ?_
  obtain ⟨h1, w2, H⟩ := H
  refine x_csv (q216c0 3 rfl) rfl rfl rfl (Nat.le_of_ble_eq_true rfl) ⟨h1, w2, ?_⟩
  refine x_aload_n (q216c0 4 rfl) rfl ?_
  refine x_getr (q216c0 5 rfl) fd0_0 ?_
  refine x_iconst (q216c0 6 rfl) ?_
  refine x_iload_n (q216c0 7 rfl) rfl ?_
  refine x_ishl (q216c0 8 rfl) ?_
  obtain ⟨h3, w4, H⟩ := H
  refine x_cvv (q216c0 9 rfl) rfl oc1 rfl (Nat.le_of_ble_eq_true rfl) ⟨h3, w4, ?_⟩
  refine x_iconst (q216c0 10 rfl) ?_
  refine x_istore_n (q216c0 11 rfl) ⟨Nat.le_of_ble_eq_true rfl, trivial⟩ ?_
  exact H
theorem g_At_sumPulls_20 {h : am_H} {x1 : Int} {x2 : Int} {x3 : Int} {P : am_H → Prop} (H : (h 1 0 ≤ x3 → P h) ∧ (x3 < h 1 0 → (∃ a3 h2, am_cd 4 139 [.inr (.inr 17), .inl x3, .inl x2, .inl (h 0 12)] h (some (.inl a3)) h2 ∧ ((x3 = x1 → ((am_ok (x3 + 1)) ∧ am_x (am_cd 4) 216 (am_qv P) 0 20 [some (.inr (.inr 0)), some (.inl x1), some (.inl x2), some (.inl (x3 + 1)), none] [] h2)) ∧ (x3 ≠ x1 → ((a3 = (-1) → ((am_ok (x3 + 1)) ∧ am_x (am_cd 4) 216 (am_qv P) 0 20 [some (.inr (.inr 0)), some (.inl x1), some (.inl x2), some (.inl (x3 + 1)), none] [] h2)) ∧ (a3 ≠ (-1) → ((0 ≤ x3 ∧ x3 < 12) ∧ ((h2 6 x3 < 1000000 → ((0 ≤ a3 ∧ a3 < 30) ∧ ((am_ok (1 + h2 6 x3) ∧ (0 < 1 + h2 6 x3 ∧ 0 ≤ h2 4 x3) ∧ am_ok (max (h2 55 a3) 0 + h2 4 x3 / (1 + h2 6 x3)) ∧ am_ok (x3 + 1)) ∧ am_x (am_cd 4) 216 (am_qv P) 0 20 [some (.inr (.inr 0)), some (.inl x1), some (.inl x2), some (.inl (x3 + 1)), none] [] (am_up h2 55 a3 (max (h2 55 a3) 0 + h2 4 x3 / (1 + h2 6 x3)))))) ∧ (1000000 ≤ h2 6 x3 → ((am_ok (x3 + 1)) ∧ am_x (am_cd 4) 216 (am_qv P) 0 20 [some (.inr (.inr 0)), some (.inl x1), some (.inl x2), some (.inl (x3 + 1)), none] [] h2))))))))))) : am_x (am_cd 4) 216 (am_qv P) 0 20 [some (.inr (.inr 0)), some (.inl x1), some (.inl x2), some (.inl x3), none] [] h := by
  refine x_iload_n (q216c0 12 rfl) rfl ?_
  refine x_aload_n (q216c0 13 rfl) rfl ?_
  refine x_getr (q216c0 14 rfl) fd0_0 ?_
  refine x_cvi (q216c0 15 rfl) rfl oc1 rfl (Nat.le_of_ble_eq_true rfl) (am_lifti (Nat.le_of_ble_eq_true rfl) (e_Land_size (r1 := h 1 0) (rfl) ?_))
  refine x_icmp_ge (q216c0 16 rfl) (fun c1 => ?_) (fun c1 => ?_)
  · replace H := H.1 c1
    exact x_ret (q216c1 0 rfl) H
  · replace H := H.2 c1
    refine x_aload_n (q216c0 17 rfl) rfl ?_
    refine x_getr (q216c0 18 rfl) fd0_3 ?_
    refine x_iload_n (q216c0 19 rfl) rfl ?_
    refine x_iload_n (q216c0 20 rfl) rfl ?_
    refine x_aload_n (q216c0 21 rfl) rfl ?_
    refine x_getf (q216c0 22 rfl) fd0_12 (rfl) ?_
    obtain ⟨a3, h2, w4, H⟩ := H
    refine x_cvi (q216c0 23 rfl) rfl oc17 rfl (Nat.le_of_ble_eq_true rfl) ⟨a3, h2, w4, ?_⟩
    refine x_istore (q216c0 24 rfl) ⟨Nat.le_of_ble_eq_true rfl, trivial⟩ ?_
    refine x_iload_n (q216c0 25 rfl) rfl ?_
    refine x_iload_n (q216c0 26 rfl) rfl ?_
    refine x_icmp_eq (q216c0 27 rfl) (fun c5 => ?_) (fun c5 => ?_)
    · replace H := H.1 c5
      obtain ⟨s6, H⟩ := H
      refine x_iinc (q216c0 58 rfl) rfl ⟨Nat.le_of_ble_eq_true rfl, trivial⟩ s6 ?_
      refine x_goto (q216c0 59 rfl) ?_
      exact am_x_weak (ls' := [some (.inr (.inr 0)), some (.inl x1), some (.inl x2), some (.inl (x3 + 1)), some (.inl a3)]) (lle_c (lle_c (lle_c (lle_c (lle_d trivial (lle_nil)))))) H
    · replace H := H.2 c5
      refine x_iload (q216c0 28 rfl) rfl ?_
      refine x_iconst (q216c0 29 rfl) ?_
      refine x_icmp_eq (q216c0 30 rfl) (fun c7 => ?_) (fun c7 => ?_)
      · replace H := H.1 c7
        obtain ⟨s8, H⟩ := H
        refine x_iinc (q216c0 58 rfl) rfl ⟨Nat.le_of_ble_eq_true rfl, trivial⟩ s8 ?_
        refine x_goto (q216c0 59 rfl) ?_
        exact am_x_weak (ls' := [some (.inr (.inr 0)), some (.inl x1), some (.inl x2), some (.inl (x3 + 1)), some (.inl a3)]) (lle_c (lle_c (lle_c (lle_c (lle_d trivial (lle_nil)))))) H
      · replace H := H.2 c7
        refine x_aload_n (q216c0 31 rfl) rfl ?_
        refine x_getr (q216c0 32 rfl) fd0_0 ?_
        refine x_iload_n (q216c0 33 rfl) rfl ?_
        refine x_cvi (q216c0 34 rfl) rfl oc1 rfl (Nat.le_of_ble_eq_true rfl) (am_lifti (Nat.le_of_ble_eq_true rfl) (e_Land_reaches (r1 := h2 6 x3) (rfl) ?_))
        obtain ⟨s9, H⟩ := H
        refine ⟨s9, ?_⟩
        refine ⟨fun c10 => ?_, fun c10 => ?_⟩
        · replace H := H.1 c10
          obtain ⟨s11, H⟩ := H
          refine x_if_eq_f (q216c0 35 rfl) (by decide) ?_
          refine x_aload_n (q216c0 36 rfl) rfl ?_
          refine x_getr (q216c0 37 rfl) fd0_11 ?_
          refine x_iload (q216c0 38 rfl) rfl ?_
          refine x_aload_n (q216c0 39 rfl) rfl ?_
          refine x_getr (q216c0 40 rfl) fd0_11 ?_
          refine x_iload (q216c0 41 rfl) rfl ?_
          refine x_iaload (q216c0 42 rfl) (al55 _) rfl (ag_l rfl rfl (rfl)) s11 ?_
          refine x_iconst (q216c0 43 rfl) ?_
          refine x_csi (q216c0 44 rfl) rfl rfl rfl (Nat.le_of_ble_eq_true rfl) (am_lifti (Nat.le_of_ble_eq_true rfl) (e_Math_max   ?_))
          refine x_aload_n (q216c0 45 rfl) rfl ?_
          refine x_getr (q216c0 46 rfl) fd0_0 ?_
          refine x_iload_n (q216c0 47 rfl) rfl ?_
          refine x_cvi (q216c0 48 rfl) rfl oc1 rfl (Nat.le_of_ble_eq_true rfl) (am_lifti (Nat.le_of_ble_eq_true rfl) (e_Land_folkAt (r1 := h2 4 x3) (rfl) ?_))
          refine ⟨s9, ?_⟩
          refine x_iconst (q216c0 49 rfl) ?_
          refine x_aload_n (q216c0 50 rfl) rfl ?_
          refine x_getr (q216c0 51 rfl) fd0_0 ?_
          refine x_iload_n (q216c0 52 rfl) rfl ?_
          refine x_cvi (q216c0 53 rfl) rfl oc1 rfl (Nat.le_of_ble_eq_true rfl) (am_lifti (Nat.le_of_ble_eq_true rfl) (e_Land_walkTo (r1 := h2 6 x3) (rfl) ?_))
          refine ⟨s9, ?_⟩
          obtain ⟨⟨s12, s13, s14, s15⟩, H⟩ := H
          refine x_iadd (q216c0 54 rfl) s12 ?_
          refine x_idiv (q216c0 55 rfl) s13 ?_
          refine x_iadd (q216c0 56 rfl) s14 ?_
          refine x_iastore (q216c0 57 rfl) (al55 _) rfl (Nat.le_of_ble_eq_true rfl) s11 (j := a3) rfl ?_
          refine x_iinc (q216c0 58 rfl) rfl ⟨Nat.le_of_ble_eq_true rfl, trivial⟩ s15 ?_
          refine x_goto (q216c0 59 rfl) ?_
          exact am_x_weak (ls' := [some (.inr (.inr 0)), some (.inl x1), some (.inl x2), some (.inl (x3 + 1)), some (.inl a3)]) (lle_c (lle_c (lle_c (lle_c (lle_d trivial (lle_nil)))))) H
        · replace H := H.2 c10
          obtain ⟨s16, H⟩ := H
          refine x_if_eq_t (q216c0 35 rfl) (by decide) ?_
          refine x_iinc (q216c0 58 rfl) rfl ⟨Nat.le_of_ble_eq_true rfl, trivial⟩ s16 ?_
          refine x_goto (q216c0 59 rfl) ?_
          exact am_x_weak (ls' := [some (.inr (.inr 0)), some (.inl x1), some (.inl x2), some (.inl (x3 + 1)), some (.inl a3)]) (lle_c (lle_c (lle_c (lle_c (lle_d trivial (lle_nil)))))) H
theorem e_Mo_distance {h : am_H} {x1 : Int} {x2 : Int} {x3 : Int} {P : Int → am_H → Prop} (H : (am_ok (h 57 0 - 1)) ∧ (((0 ≤ x1 ∧ x1 ≤ h 57 0 - 1) → (((0 ≤ x2 ∧ x2 ≤ h 57 0 - 1) → (((0 ≤ x3 ∧ x3 ≤ 999) → (∃ h5, am_cd 4 197 [.inr (.inr 56), .inl x3] h none h5 ∧ ((am_ok (12 * x1) ∧ am_ok (12 * x1 + x2) ∧ (0 ≤ 12 * x1 + x2 ∧ 12 * x1 + x2 < 144)) ∧ P (h5 69 (12 * x1 + x2)) h5))) ∧ ((¬(0 ≤ x3 ∧ x3 ≤ 999)) → ((am_ok (h 56 3 + 1)) ∧ P (-100001) (am_up h 56 3 (h 56 3 + 1)))))) ∧ ((¬(0 ≤ x2 ∧ x2 ≤ h 57 0 - 1)) → ((am_ok (h 56 3 + 1)) ∧ P (-100001) (am_up h 56 3 (h 56 3 + 1)))))) ∧ ((¬(0 ≤ x1 ∧ x1 ≤ h 57 0 - 1)) → ((am_ok (h 56 3 + 1)) ∧ P (-100001) (am_up h 56 3 (h 56 3 + 1)))))) : ∃ a h1, am_cd 5 217 [.inr (.inr 56), .inl x1, .inl x2, .inl x3] h (some (.inl a)) h1 ∧ P a h1 := by
  refine am_outi (d := 4) (ls := [some (.inr (.inr 56)), some (.inl x1), some (.inl x2), some (.inl x3)]) rfl ab217 ml217 (Nat.le_of_ble_eq_true rfl) np217 rfl ?_
  refine x_aload_n (q217c0 0 rfl) rfl ?_
  refine x_iload_n (q217c0 1 rfl) rfl ?_
  refine x_cvi (q217c0 2 rfl) rfl oc56 rfl (Nat.le_of_ble_eq_true rfl) (am_lifti (Nat.le_of_ble_eq_true rfl) (e_Mo_isVillage (r1 := h 57 0) (rfl) ?_))
  obtain ⟨s1, H⟩ := H
  refine ⟨s1, ?_⟩
  refine ⟨fun c2 => ?_, fun c2 => ?_⟩
  · replace H := H.1 c2
    refine x_if_eq_f (q217c0 3 rfl) (by decide) ?_
    refine x_aload_n (q217c0 4 rfl) rfl ?_
    refine x_iload_n (q217c0 5 rfl) rfl ?_
    refine x_cvi (q217c0 6 rfl) rfl oc56 rfl (Nat.le_of_ble_eq_true rfl) (am_lifti (Nat.le_of_ble_eq_true rfl) (e_Mo_isVillage (r1 := h 57 0) (rfl) ?_))
    refine ⟨s1, ?_⟩
    refine ⟨fun c3 => ?_, fun c3 => ?_⟩
    · replace H := H.1 c3
      refine x_if_eq_f (q217c0 7 rfl) (by decide) ?_
      refine x_iload_n (q217c0 8 rfl) rfl ?_
      refine x_csi (q217c0 9 rfl) rfl rfl rfl (Nat.le_of_ble_eq_true rfl) (am_lifti (Nat.le_of_ble_eq_true rfl) (e_Mo_isDay   ?_))
      refine ⟨fun c4 => ?_, fun c4 => ?_⟩
      · replace H := H.1 c4
        refine x_if_ne_t (q217c0 10 rfl) (by decide) ?_
        refine x_aload_n (q217c0 15 rfl) rfl ?_
        refine x_iload_n (q217c0 16 rfl) rfl ?_
        obtain ⟨h5, w6, H⟩ := H
        refine x_cvv (q217c0 17 rfl) rfl oc56 rfl (Nat.le_of_ble_eq_true rfl) ⟨h5, w6, ?_⟩
        obtain ⟨⟨s7, s8, s9⟩, H⟩ := H
        refine x_aload_n (q217c0 18 rfl) rfl ?_
        refine x_getr (q217c0 19 rfl) fd56_17 ?_
        refine x_bipush (q217c0 20 rfl) ?_
        refine x_iload_n (q217c0 21 rfl) rfl ?_
        refine x_imul (q217c0 22 rfl) s7 ?_
        refine x_iload_n (q217c0 23 rfl) rfl ?_
        refine x_iadd (q217c0 24 rfl) s8 ?_
        refine x_iaload (q217c0 25 rfl) (al69 _) rfl (ag_l rfl rfl (rfl)) s9 ?_
        exact x_ireti (q217c0 26 rfl) zb217 H
      · replace H := H.2 c4
        refine x_if_ne_f (q217c0 10 rfl) (by decide) ?_
        refine x_aload_n (q217c0 11 rfl) rfl ?_
        refine x_ldc (q217c0 12 rfl) ?_
        refine x_cvi (q217c0 13 rfl) rfl oc56 rfl (Nat.le_of_ble_eq_true rfl) (am_lifti (Nat.le_of_ble_eq_true rfl) (e_Mo_finds (r1 := h 56 3) (rfl) ?_))
        obtain ⟨s10, H⟩ := H
        refine ⟨s10, ?_⟩
        exact x_ireti (q217c0 14 rfl) zb217 H
    · replace H := H.2 c3
      refine x_if_eq_t (q217c0 7 rfl) (by decide) ?_
      refine x_aload_n (q217c0 11 rfl) rfl ?_
      refine x_ldc (q217c0 12 rfl) ?_
      refine x_cvi (q217c0 13 rfl) rfl oc56 rfl (Nat.le_of_ble_eq_true rfl) (am_lifti (Nat.le_of_ble_eq_true rfl) (e_Mo_finds (r1 := h 56 3) (rfl) ?_))
      obtain ⟨s11, H⟩ := H
      refine ⟨s11, ?_⟩
      exact x_ireti (q217c0 14 rfl) zb217 H
  · replace H := H.2 c2
    refine x_if_eq_t (q217c0 3 rfl) (by decide) ?_
    refine x_aload_n (q217c0 11 rfl) rfl ?_
    refine x_ldc (q217c0 12 rfl) ?_
    refine x_cvi (q217c0 13 rfl) rfl oc56 rfl (Nat.le_of_ble_eq_true rfl) (am_lifti (Nat.le_of_ble_eq_true rfl) (e_Mo_finds (r1 := h 56 3) (rfl) ?_))
    obtain ⟨s12, H⟩ := H
    refine ⟨s12, ?_⟩
    exact x_ireti (q217c0 14 rfl) zb217 H
theorem e_Mo_dialects {h : am_H} {x1 : Int} {x2 : Int} {P : Int → am_H → Prop} (H : ((1 ≤ x1 ∧ x1 ≤ 4) → ((am_ok (h 57 0 - 1)) ∧ ((((-1) ≤ x2 ∧ x2 ≤ h 57 0 - 1) → ((h 57 0 ≠ 0 → ((h 57 0 ≤ 10 → (∃ h6, am_cd 15 197 [.inr (.inr 56), .inl (h 57 4)] h none h6 ∧ (∃ h8, am_cd 15 83 [.inr (.inr 56), .inl 0, .inl 0, .inl x1, .inl 0] (am_up h6 56 21 (-1)) none h8 ∧ ((0 ≤ x2 → ((0 ≤ x2 ∧ x2 < 12) ∧ P (h8 72 x2) h8)) ∧ (x2 < 0 → P (h8 56 21) h8))))) ∧ (10 < h 57 0 → ((am_ok (h 56 3 + 1)) ∧ P (-100003) (am_up h 56 3 (h 56 3 + 1)))))) ∧ (h 57 0 = 0 → ((am_ok (h 56 3 + 1)) ∧ P (-100006) (am_up h 56 3 (h 56 3 + 1)))))) ∧ ((¬((-1) ≤ x2 ∧ x2 ≤ h 57 0 - 1)) → ((am_ok (h 56 3 + 1)) ∧ P (-100001) (am_up h 56 3 (h 56 3 + 1))))))) ∧ ((¬(1 ≤ x1 ∧ x1 ≤ 4)) → ((am_ok (h 56 3 + 1)) ∧ P (-100001) (am_up h 56 3 (h 56 3 + 1))))) : ∃ a h1, am_cd 16 218 [.inr (.inr 56), .inl x1, .inl x2] h (some (.inl a)) h1 ∧ P a h1 := by
  refine am_outi (d := 15) (ls := [some (.inr (.inr 56)), some (.inl x1), some (.inl x2)]) rfl ab218 ml218 (Nat.le_of_ble_eq_true rfl) np218 rfl ?_
  refine x_iload_n (q218c0 0 rfl) rfl ?_
  refine x_iconst (q218c0 1 rfl) ?_
  refine x_iconst (q218c0 2 rfl) ?_
  refine x_csi (q218c0 3 rfl) rfl rfl rfl (Nat.le_of_ble_eq_true rfl) (am_lifti (Nat.le_of_ble_eq_true rfl) (e_Mo_in   ?_))
  refine ⟨fun c1 => ?_, fun c1 => ?_⟩
  · replace H := H.1 c1
    obtain ⟨s2, H⟩ := H
    refine x_if_eq_f (q218c0 4 rfl) (by decide) ?_
    refine x_iload_n (q218c0 5 rfl) rfl ?_
    refine x_iconst (q218c0 6 rfl) ?_
    refine x_aload_n (q218c0 7 rfl) rfl ?_
    refine x_getr (q218c0 8 rfl) fd56_0 ?_
    refine x_iconst (q218c0 9 rfl) ?_
    refine x_iaload (q218c0 10 rfl) (al57 _) rfl (ag_l rfl rfl (rfl)) (by decide) ?_
    refine x_iconst (q218c0 11 rfl) ?_
    refine x_isub (q218c0 12 rfl) s2 ?_
    refine x_csi (q218c0 13 rfl) rfl rfl rfl (Nat.le_of_ble_eq_true rfl) (am_lifti (Nat.le_of_ble_eq_true rfl) (e_Mo_in   ?_))
    refine ⟨fun c3 => ?_, fun c3 => ?_⟩
    · replace H := H.1 c3
      refine x_if_ne_t (q218c0 14 rfl) (by decide) ?_
      refine x_aload_n (q218c0 19 rfl) rfl ?_
      refine x_getr (q218c0 20 rfl) fd56_0 ?_
      refine x_iconst (q218c0 21 rfl) ?_
      refine x_iaload (q218c0 22 rfl) (al57 _) rfl (ag_l rfl rfl (rfl)) (by decide) ?_
      refine x_if_ne (q218c0 23 rfl) (fun c4 => ?_) (fun c4 => ?_)
      · replace H := H.1 c4
        refine x_aload_n (q218c0 28 rfl) rfl ?_
        refine x_getr (q218c0 29 rfl) fd56_0 ?_
        refine x_iconst (q218c0 30 rfl) ?_
        refine x_iaload (q218c0 31 rfl) (al57 _) rfl (ag_l rfl rfl (rfl)) (by decide) ?_
        refine x_bipush (q218c0 32 rfl) ?_
        refine x_icmp_le (q218c0 33 rfl) (fun c5 => ?_) (fun c5 => ?_)
        · replace H := H.1 c5
          refine x_aload_n (q218c0 38 rfl) rfl ?_
          refine x_aload_n (q218c0 39 rfl) rfl ?_
          refine x_getr (q218c0 40 rfl) fd56_0 ?_
          refine x_iconst (q218c0 41 rfl) ?_
          refine x_iaload (q218c0 42 rfl) (al57 _) rfl (ag_l rfl rfl (rfl)) (by decide) ?_
          obtain ⟨h6, w7, H⟩ := H
          refine x_cvv (q218c0 43 rfl) rfl oc56 rfl (Nat.le_of_ble_eq_true rfl) ⟨h6, w7, ?_⟩
          refine x_aload_n (q218c0 44 rfl) rfl ?_
          refine x_iconst (q218c0 45 rfl) ?_
          refine x_putf (q218c0 46 rfl) fd56_21 ?_
          refine x_aload_n (q218c0 47 rfl) rfl ?_
          refine x_iconst (q218c0 48 rfl) ?_
          refine x_iconst (q218c0 49 rfl) ?_
          refine x_iload_n (q218c0 50 rfl) rfl ?_
          refine x_iconst (q218c0 51 rfl) ?_
          obtain ⟨h8, w9, H⟩ := H
          refine x_cvv (q218c0 52 rfl) rfl oc56 rfl (Nat.le_of_ble_eq_true rfl) ⟨h8, w9, ?_⟩
          refine x_iload_n (q218c0 53 rfl) rfl ?_
          refine x_if_ge (q218c0 54 rfl) (fun c10 => ?_) (fun c10 => ?_)
          · replace H := H.1 c10
            obtain ⟨s11, H⟩ := H
            refine x_aload_n (q218c0 58 rfl) rfl ?_
            refine x_getr (q218c0 59 rfl) fd56_20 ?_
            refine x_iload_n (q218c1 0 rfl) rfl ?_
            refine x_iaload (q218c1 1 rfl) (al72 _) rfl (ag_l rfl rfl (rfl)) s11 ?_
            exact x_ireti (q218c1 2 rfl) zb218 H
          · replace H := H.2 c10
            refine x_aload_n (q218c0 55 rfl) rfl ?_
            refine x_getf (q218c0 56 rfl) fd56_21 (rfl) ?_
            refine x_goto (q218c0 57 rfl) ?_
            exact x_ireti (q218c1 2 rfl) zb218 H
        · replace H := H.2 c5
          refine x_aload_n (q218c0 34 rfl) rfl ?_
          refine x_ldc (q218c0 35 rfl) ?_
          refine x_cvi (q218c0 36 rfl) rfl oc56 rfl (Nat.le_of_ble_eq_true rfl) (am_lifti (Nat.le_of_ble_eq_true rfl) (e_Mo_finds (r1 := h 56 3) (rfl) ?_))
          obtain ⟨s12, H⟩ := H
          refine ⟨s12, ?_⟩
          exact x_ireti (q218c0 37 rfl) zb218 H
      · replace H := H.2 c4
        refine x_aload_n (q218c0 24 rfl) rfl ?_
        refine x_ldc (q218c0 25 rfl) ?_
        refine x_cvi (q218c0 26 rfl) rfl oc56 rfl (Nat.le_of_ble_eq_true rfl) (am_lifti (Nat.le_of_ble_eq_true rfl) (e_Mo_finds (r1 := h 56 3) (rfl) ?_))
        obtain ⟨s13, H⟩ := H
        refine ⟨s13, ?_⟩
        exact x_ireti (q218c0 27 rfl) zb218 H
    · replace H := H.2 c3
      refine x_if_ne_f (q218c0 14 rfl) (by decide) ?_
      refine x_aload_n (q218c0 15 rfl) rfl ?_
      refine x_ldc (q218c0 16 rfl) ?_
      refine x_cvi (q218c0 17 rfl) rfl oc56 rfl (Nat.le_of_ble_eq_true rfl) (am_lifti (Nat.le_of_ble_eq_true rfl) (e_Mo_finds (r1 := h 56 3) (rfl) ?_))
      obtain ⟨s14, H⟩ := H
      refine ⟨s14, ?_⟩
      exact x_ireti (q218c0 18 rfl) zb218 H
  · replace H := H.2 c1
    refine x_if_eq_t (q218c0 4 rfl) (by decide) ?_
    refine x_aload_n (q218c0 15 rfl) rfl ?_
    refine x_ldc (q218c0 16 rfl) ?_
    refine x_cvi (q218c0 17 rfl) rfl oc56 rfl (Nat.le_of_ble_eq_true rfl) (am_lifti (Nat.le_of_ble_eq_true rfl) (e_Mo_finds (r1 := h 56 3) (rfl) ?_))
    obtain ⟨s15, H⟩ := H
    refine ⟨s15, ?_⟩
    exact x_ireti (q218c0 18 rfl) zb218 H
theorem e_Mo_proves {h : am_H} {x1 : Int} {x2 : Int} {P : Int → am_H → Prop} (H : ((0 ≤ x1 ∧ x1 ≤ 3) → ((0 ≤ x1 ∧ x1 < 4) ∧ ((h 76 x1 ≠ 0 → ((h 57 0 ≤ 10 → (∃ h5, am_cd 4 197 [.inr (.inr 56), .inl (h 57 4)] h none h5 ∧ am_x (am_cd 4) 219 (am_qi P) 0 66 [some (.inr (.inr 56)), some (.inl x1), some (.inl x2), some (.inl 0), some (.inl 0), some (.inl 0), none, none] [] h5)) ∧ (10 < h 57 0 → ((am_ok (h 56 3 + 1)) ∧ P (-100003) (am_up h 56 3 (h 56 3 + 1)))))) ∧ (h 76 x1 = 0 → ((am_ok (h 56 3 + 1)) ∧ P (-100002) (am_up h 56 3 (h 56 3 + 1))))))) ∧ ((¬(0 ≤ x1 ∧ x1 ≤ 3)) → ((am_ok (h 56 3 + 1)) ∧ P (-100001) (am_up h 56 3 (h 56 3 + 1))))) : ∃ a h1, am_cd 5 219 [.inr (.inr 56), .inl x1, .inl x2] h (some (.inl a)) h1 ∧ P a h1 := by
  refine am_outi (d := 4) (ls := [some (.inr (.inr 56)), some (.inl x1), some (.inl x2), none, none, none, none, none]) rfl ab219 ml219 (Nat.le_of_ble_eq_true rfl) np219 rfl ?_
  refine x_iload_n (q219c0 0 rfl) rfl ?_
  refine x_csi (q219c0 1 rfl) rfl rfl rfl (Nat.le_of_ble_eq_true rfl) (am_lifti (Nat.le_of_ble_eq_true rfl) (e_Mo_isSheet   ?_))
  refine ⟨fun c1 => ?_, fun c1 => ?_⟩
  · replace H := H.1 c1
    obtain ⟨s2, H⟩ := H
    refine x_if_ne_t (q219c0 2 rfl) (by decide) ?_
    refine x_aload_n (q219c0 7 rfl) rfl ?_
    refine x_getr (q219c0 8 rfl) fd56_28 ?_
    refine x_iload_n (q219c0 9 rfl) rfl ?_
    refine x_iaload (q219c0 10 rfl) (al76 _) rfl (ag_l rfl rfl (rfl)) s2 ?_
    refine x_if_ne (q219c0 11 rfl) (fun c3 => ?_) (fun c3 => ?_)
    · replace H := H.1 c3
      refine x_aload_n (q219c0 16 rfl) rfl ?_
      refine x_getr (q219c0 17 rfl) fd56_0 ?_
      refine x_iconst (q219c0 18 rfl) ?_
      refine x_iaload (q219c0 19 rfl) (al57 _) rfl (ag_l rfl rfl (rfl)) (by decide) ?_
      refine x_bipush (q219c0 20 rfl) ?_
      refine x_icmp_le (q219c0 21 rfl) (fun c4 => ?_) (fun c4 => ?_)
      · replace H := H.1 c4
        refine x_aload_n (q219c0 26 rfl) rfl ?_
        refine x_aload_n (q219c0 27 rfl) rfl ?_
        refine x_getr (q219c0 28 rfl) fd56_0 ?_
        refine x_iconst (q219c0 29 rfl) ?_
        refine x_iaload (q219c0 30 rfl) (al57 _) rfl (ag_l rfl rfl (rfl)) (by decide) ?_
        obtain ⟨h5, w6, H⟩ := H
        refine x_cvv (q219c0 31 rfl) rfl oc56 rfl (Nat.le_of_ble_eq_true rfl) ⟨h5, w6, ?_⟩
        refine x_iconst (q219c0 32 rfl) ?_
        refine x_istore_n (q219c0 33 rfl) ⟨Nat.le_of_ble_eq_true rfl, trivial⟩ ?_
        refine x_iconst (q219c0 34 rfl) ?_
        refine x_istore (q219c0 35 rfl) ⟨Nat.le_of_ble_eq_true rfl, trivial⟩ ?_
        refine x_iconst (q219c0 36 rfl) ?_
        refine x_istore (q219c0 37 rfl) ⟨Nat.le_of_ble_eq_true rfl, trivial⟩ ?_
        exact H
      · replace H := H.2 c4
        refine x_aload_n (q219c0 22 rfl) rfl ?_
        refine x_ldc (q219c0 23 rfl) ?_
        refine x_cvi (q219c0 24 rfl) rfl oc56 rfl (Nat.le_of_ble_eq_true rfl) (am_lifti (Nat.le_of_ble_eq_true rfl) (e_Mo_finds (r1 := h 56 3) (rfl) ?_))
        obtain ⟨s7, H⟩ := H
        refine ⟨s7, ?_⟩
        exact x_ireti (q219c0 25 rfl) zb219 H
    · replace H := H.2 c3
      refine x_aload_n (q219c0 12 rfl) rfl ?_
      refine x_ldc (q219c0 13 rfl) ?_
      refine x_cvi (q219c0 14 rfl) rfl oc56 rfl (Nat.le_of_ble_eq_true rfl) (am_lifti (Nat.le_of_ble_eq_true rfl) (e_Mo_finds (r1 := h 56 3) (rfl) ?_))
      obtain ⟨s8, H⟩ := H
      refine ⟨s8, ?_⟩
      exact x_ireti (q219c0 15 rfl) zb219 H
  · replace H := H.2 c1
    refine x_if_ne_f (q219c0 2 rfl) (by decide) ?_
    refine x_aload_n (q219c0 3 rfl) rfl ?_
    refine x_ldc (q219c0 4 rfl) ?_
    refine x_cvi (q219c0 5 rfl) rfl oc56 rfl (Nat.le_of_ble_eq_true rfl) (am_lifti (Nat.le_of_ble_eq_true rfl) (e_Mo_finds (r1 := h 56 3) (rfl) ?_))
    obtain ⟨s9, H⟩ := H
    refine ⟨s9, ?_⟩
    exact x_ireti (q219c0 6 rfl) zb219 H
theorem g_Mo_proves_66 {h : am_H} {x1 : Int} {x2 : Int} {x3 : Int} {x4 : Int} {x5 : Int} {P : Int → am_H → Prop} (H : (h 57 0 ≤ x5 → ((0 ≤ x1 ∧ x1 < 4) ∧ ((h 77 x1 = h 57 0 → ((x4 ≤ x2 → P (-1) h) ∧ (x2 < x4 → P 100 h))) ∧ (h 77 x1 ≠ h 57 0 → P (h 77 x1) h)))) ∧ (x5 < h 57 0 → ((0 ≤ x1 ∧ x1 < 4) ∧ ((h 77 x1 ≤ x5 → ((h 77 x1 = h 57 0 → ((x4 ≤ x2 → P (-1) h) ∧ (x2 < x4 → P 100 h))) ∧ (h 77 x1 ≠ h 57 0 → P (h 77 x1) h))) ∧ (x5 < h 77 x1 → ((am_ok (20 * x1) ∧ am_ok (20 * x1 + x5) ∧ (0 ≤ 20 * x1 + x5 ∧ 20 * x1 + x5 < 80)) ∧ ((h 78 (20 * x1 + x5) < 0 → P x5 h) ∧ (0 ≤ h 78 (20 * x1 + x5) → ((x3 < h 78 (20 * x1 + x5) → P x5 h) ∧ (h 78 (20 * x1 + x5) ≤ x3 → ((h 78 (20 * x1 + x5) ≤ 3 → ((h 78 (20 * x1 + x5) ≠ x3 → ((am_ok (x4 + 0) ∧ am_ok (x3 + 0)) ∧ am_x (am_cd 4) 219 (am_qi P) 0 155 [some (.inr (.inr 56)), some (.inl x1), some (.inl x2), some (.inl (x3 + 0)), some (.inl (x4 + 0)), some (.inl x5), some (.inl (h 78 (20 * x1 + x5))), some (.inl 0)] [] h)) ∧ (h 78 (20 * x1 + x5) = x3 → ((am_ok (x4 + 5) ∧ am_ok (x3 + 1)) ∧ am_x (am_cd 4) 219 (am_qi P) 0 155 [some (.inr (.inr 56)), some (.inl x1), some (.inl x2), some (.inl (x3 + 1)), some (.inl (x4 + 5)), some (.inl x5), some (.inl (h 78 (20 * x1 + x5))), some (.inl 0)] [] h)))) ∧ (3 < h 78 (20 * x1 + x5) → P x5 h)))))))))))) : am_x (am_cd 4) 219 (am_qi P) 0 66 [some (.inr (.inr 56)), some (.inl x1), some (.inl x2), some (.inl x3), some (.inl x4), some (.inl x5), none, none] [] h := by
  refine x_iload (q219c0 38 rfl) rfl ?_
  refine x_aload_n (q219c0 39 rfl) rfl ?_
  refine x_getr (q219c0 40 rfl) fd56_0 ?_
  refine x_iconst (q219c0 41 rfl) ?_
  refine x_iaload (q219c0 42 rfl) (al57 _) rfl (ag_l rfl rfl (rfl)) (by decide) ?_
  refine x_icmp_ge (q219c0 43 rfl) (fun c1 => ?_) (fun c1 => ?_)
  · replace H := H.1 c1
    obtain ⟨s2, H⟩ := H
    refine x_aload_n (q219c1 59 rfl) rfl ?_
    refine x_getr (q219c2 0 rfl) fd56_29 ?_
    refine x_iload_n (q219c2 1 rfl) rfl ?_
    refine x_iaload (q219c2 2 rfl) (al77 _) rfl (ag_l rfl rfl (rfl)) s2 ?_
    refine x_aload_n (q219c2 3 rfl) rfl ?_
    refine x_getr (q219c2 4 rfl) fd56_0 ?_
    refine x_iconst (q219c2 5 rfl) ?_
    refine x_iaload (q219c2 6 rfl) (al57 _) rfl (ag_l rfl rfl (rfl)) (by decide) ?_
    refine x_icmp_eq (q219c2 7 rfl) (fun c3 => ?_) (fun c3 => ?_)
    · replace H := H.1 c3
      refine x_iload (q219c2 13 rfl) rfl ?_
      refine x_iload_n (q219c2 14 rfl) rfl ?_
      refine x_icmp_le (q219c2 15 rfl) (fun c4 => ?_) (fun c4 => ?_)
      · replace H := H.1 c4
        refine x_iconst (q219c2 18 rfl) ?_
        exact x_ireti (q219c2 19 rfl) zb219 H
      · replace H := H.2 c4
        refine x_bipush (q219c2 16 rfl) ?_
        refine x_goto (q219c2 17 rfl) ?_
        exact x_ireti (q219c2 19 rfl) zb219 H
    · replace H := H.2 c3
      refine x_aload_n (q219c2 8 rfl) rfl ?_
      refine x_getr (q219c2 9 rfl) fd56_29 ?_
      refine x_iload_n (q219c2 10 rfl) rfl ?_
      refine x_iaload (q219c2 11 rfl) (al77 _) rfl (ag_l rfl rfl (rfl)) s2 ?_
      refine x_goto (q219c2 12 rfl) ?_
      exact x_ireti (q219c2 19 rfl) zb219 H
  · replace H := H.2 c1
    obtain ⟨s5, H⟩ := H
    refine x_iload (q219c0 44 rfl) rfl ?_
    refine x_aload_n (q219c0 45 rfl) rfl ?_
    refine x_getr (q219c0 46 rfl) fd56_29 ?_
    refine x_iload_n (q219c0 47 rfl) rfl ?_
    refine x_iaload (q219c0 48 rfl) (al77 _) rfl (ag_l rfl rfl (rfl)) s5 ?_
    refine x_icmp_ge (q219c0 49 rfl) (fun c6 => ?_) (fun c6 => ?_)
    · replace H := H.1 c6
      refine x_aload_n (q219c1 59 rfl) rfl ?_
      refine x_getr (q219c2 0 rfl) fd56_29 ?_
      refine x_iload_n (q219c2 1 rfl) rfl ?_
      refine x_iaload (q219c2 2 rfl) (al77 _) rfl (ag_l rfl rfl (rfl)) s5 ?_
      refine x_aload_n (q219c2 3 rfl) rfl ?_
      refine x_getr (q219c2 4 rfl) fd56_0 ?_
      refine x_iconst (q219c2 5 rfl) ?_
      refine x_iaload (q219c2 6 rfl) (al57 _) rfl (ag_l rfl rfl (rfl)) (by decide) ?_
      refine x_icmp_eq (q219c2 7 rfl) (fun c7 => ?_) (fun c7 => ?_)
      · replace H := H.1 c7
        refine x_iload (q219c2 13 rfl) rfl ?_
        refine x_iload_n (q219c2 14 rfl) rfl ?_
        refine x_icmp_le (q219c2 15 rfl) (fun c8 => ?_) (fun c8 => ?_)
        · replace H := H.1 c8
          refine x_iconst (q219c2 18 rfl) ?_
          exact x_ireti (q219c2 19 rfl) zb219 H
        · replace H := H.2 c8
          refine x_bipush (q219c2 16 rfl) ?_
          refine x_goto (q219c2 17 rfl) ?_
          exact x_ireti (q219c2 19 rfl) zb219 H
      · replace H := H.2 c7
        refine x_aload_n (q219c2 8 rfl) rfl ?_
        refine x_getr (q219c2 9 rfl) fd56_29 ?_
        refine x_iload_n (q219c2 10 rfl) rfl ?_
        refine x_iaload (q219c2 11 rfl) (al77 _) rfl (ag_l rfl rfl (rfl)) s5 ?_
        refine x_goto (q219c2 12 rfl) ?_
        exact x_ireti (q219c2 19 rfl) zb219 H
    · replace H := H.2 c6
      obtain ⟨⟨s9, s10, s11⟩, H⟩ := H
      refine x_aload_n (q219c0 50 rfl) rfl ?_
      refine x_getr (q219c0 51 rfl) fd56_30 ?_
      refine x_bipush (q219c0 52 rfl) ?_
      refine x_iload_n (q219c0 53 rfl) rfl ?_
      refine x_imul (q219c0 54 rfl) s9 ?_
      refine x_iload (q219c0 55 rfl) rfl ?_
      refine x_iadd (q219c0 56 rfl) s10 ?_
      refine x_iaload (q219c0 57 rfl) (al78 _) rfl (ag_l rfl rfl (rfl)) s11 ?_
      refine x_istore (q219c0 58 rfl) ⟨Nat.le_of_ble_eq_true rfl, trivial⟩ ?_
      refine x_iload (q219c0 59 rfl) rfl ?_
      refine x_if_lt (q219c1 0 rfl) (fun c12 => ?_) (fun c12 => ?_)
      · replace H := H.1 c12
        refine x_iload (q219c1 7 rfl) rfl ?_
        exact x_ireti (q219c1 8 rfl) zb219 H
      · replace H := H.2 c12
        refine x_iload (q219c1 1 rfl) rfl ?_
        refine x_iload_n (q219c1 2 rfl) rfl ?_
        refine x_icmp_gt (q219c1 3 rfl) (fun c13 => ?_) (fun c13 => ?_)
        · replace H := H.1 c13
          refine x_iload (q219c1 7 rfl) rfl ?_
          exact x_ireti (q219c1 8 rfl) zb219 H
        · replace H := H.2 c13
          refine x_iload (q219c1 4 rfl) rfl ?_
          refine x_iconst (q219c1 5 rfl) ?_
          refine x_icmp_le (q219c1 6 rfl) (fun c14 => ?_) (fun c14 => ?_)
          · replace H := H.1 c14
            refine x_iload (q219c1 9 rfl) rfl ?_
            refine x_iload (q219c1 10 rfl) rfl ?_
            refine x_iload_n (q219c1 11 rfl) rfl ?_
            refine x_icmp_ne (q219c1 12 rfl) (fun c15 => ?_) (fun c15 => ?_)
            · replace H := H.1 c15
              obtain ⟨⟨s16, s17⟩, H⟩ := H
              refine x_iconst (q219c1 15 rfl) ?_
              refine x_iadd (q219c1 16 rfl) s16 ?_
              refine x_istore (q219c1 17 rfl) ⟨Nat.le_of_ble_eq_true rfl, trivial⟩ ?_
              refine x_iload_n (q219c1 18 rfl) rfl ?_
              refine x_iload (q219c1 19 rfl) rfl ?_
              refine x_iload_n (q219c1 20 rfl) rfl ?_
              refine x_icmp_ne_t (q219c1 21 rfl) c15 ?_
              refine x_iconst (q219c1 24 rfl) ?_
              refine x_iadd (q219c1 25 rfl) s17 ?_
              refine x_istore_n (q219c1 26 rfl) ⟨Nat.le_of_ble_eq_true rfl, trivial⟩ ?_
              refine x_iconst (q219c1 27 rfl) ?_
              refine x_istore (q219c1 28 rfl) ⟨Nat.le_of_ble_eq_true rfl, trivial⟩ ?_
              exact H
            · replace H := H.2 c15
              obtain ⟨⟨s18, s19⟩, H⟩ := H
              refine x_iconst (q219c1 13 rfl) ?_
              refine x_goto (q219c1 14 rfl) ?_
              refine x_iadd (q219c1 16 rfl) s18 ?_
              refine x_istore (q219c1 17 rfl) ⟨Nat.le_of_ble_eq_true rfl, trivial⟩ ?_
              refine x_iload_n (q219c1 18 rfl) rfl ?_
              refine x_iload (q219c1 19 rfl) rfl ?_
              refine x_iload_n (q219c1 20 rfl) rfl ?_
              refine x_icmp_ne_f (q219c1 21 rfl) c15 ?_
              refine x_iconst (q219c1 22 rfl) ?_
              refine x_goto (q219c1 23 rfl) ?_
              refine x_iadd (q219c1 25 rfl) s19 ?_
              refine x_istore_n (q219c1 26 rfl) ⟨Nat.le_of_ble_eq_true rfl, trivial⟩ ?_
              refine x_iconst (q219c1 27 rfl) ?_
              refine x_istore (q219c1 28 rfl) ⟨Nat.le_of_ble_eq_true rfl, trivial⟩ ?_
              exact H
          · replace H := H.2 c14
            refine x_iload (q219c1 7 rfl) rfl ?_
            exact x_ireti (q219c1 8 rfl) zb219 H
theorem g_Mo_proves_155 {h : am_H} {x1 : Int} {x2 : Int} {x3 : Int} {x4 : Int} {x5 : Int} {x6 : Int} {x7 : Int} {P : Int → am_H → Prop} (H : (x5 ≤ x7 → ((am_ok (x5 + 1)) ∧ am_x (am_cd 4) 219 (am_qi P) 0 66 [some (.inr (.inr 56)), some (.inl x1), some (.inl x2), some (.inl x3), some (.inl x4), some (.inl (x5 + 1)), none, none] [] h)) ∧ (x7 < x5 → ((am_ok (20 * x1) ∧ am_ok (20 * x1 + x7) ∧ (0 ≤ 20 * x1 + x7 ∧ 20 * x1 + x7 < 80)) ∧ ((h 78 (20 * x1 + x7) ≠ x6 → ((am_ok (x4 + 0) ∧ am_ok (x7 + 1)) ∧ am_x (am_cd 4) 219 (am_qi P) 0 155 [some (.inr (.inr 56)), some (.inl x1), some (.inl x2), some (.inl x3), some (.inl (x4 + 0)), some (.inl x5), some (.inl x6), some (.inl (x7 + 1))] [] h)) ∧ (h 78 (20 * x1 + x7) = x6 → ((am_ok (12 * x7) ∧ am_ok (12 * x7 + x5) ∧ (0 ≤ 12 * x7 + x5 ∧ 12 * x7 + x5 < 144) ∧ am_ok (x4 + h 69 (12 * x7 + x5)) ∧ am_ok (x7 + 1)) ∧ am_x (am_cd 4) 219 (am_qi P) 0 155 [some (.inr (.inr 56)), some (.inl x1), some (.inl x2), some (.inl x3), some (.inl (x4 + h 69 (12 * x7 + x5))), some (.inl x5), some (.inl x6), some (.inl (x7 + 1))] [] h)))))) : am_x (am_cd 4) 219 (am_qi P) 0 155 [some (.inr (.inr 56)), some (.inl x1), some (.inl x2), some (.inl x3), some (.inl x4), some (.inl x5), some (.inl x6), some (.inl x7)] [] h := by
  refine x_iload (q219c1 29 rfl) rfl ?_
  refine x_iload (q219c1 30 rfl) rfl ?_
  refine x_icmp_ge (q219c1 31 rfl) (fun c1 => ?_) (fun c1 => ?_)
  · replace H := H.1 c1
    obtain ⟨s2, H⟩ := H
    refine x_iinc (q219c1 57 rfl) rfl ⟨Nat.le_of_ble_eq_true rfl, trivial⟩ s2 ?_
    refine x_goto (q219c1 58 rfl) ?_
    exact am_x_weak (ls' := [some (.inr (.inr 56)), some (.inl x1), some (.inl x2), some (.inl x3), some (.inl x4), some (.inl (x5 + 1)), some (.inl x6), some (.inl x7)]) (lle_c (lle_c (lle_c (lle_c (lle_c (lle_c (lle_d trivial (lle_d trivial (lle_nil))))))))) H
  · replace H := H.2 c1
    obtain ⟨⟨s3, s4, s5⟩, H⟩ := H
    refine x_iload (q219c1 32 rfl) rfl ?_
    refine x_aload_n (q219c1 33 rfl) rfl ?_
    refine x_getr (q219c1 34 rfl) fd56_30 ?_
    refine x_bipush (q219c1 35 rfl) ?_
    refine x_iload_n (q219c1 36 rfl) rfl ?_
    refine x_imul (q219c1 37 rfl) s3 ?_
    refine x_iload (q219c1 38 rfl) rfl ?_
    refine x_iadd (q219c1 39 rfl) s4 ?_
    refine x_iaload (q219c1 40 rfl) (al78 _) rfl (ag_l rfl rfl (rfl)) s5 ?_
    refine x_iload (q219c1 41 rfl) rfl ?_
    refine x_icmp_ne (q219c1 42 rfl) (fun c6 => ?_) (fun c6 => ?_)
    · replace H := H.1 c6
      obtain ⟨⟨s7, s8⟩, H⟩ := H
      refine x_iconst (q219c1 52 rfl) ?_
      refine x_iadd (q219c1 53 rfl) s7 ?_
      refine x_istore (q219c1 54 rfl) ⟨Nat.le_of_ble_eq_true rfl, trivial⟩ ?_
      refine x_iinc (q219c1 55 rfl) rfl ⟨Nat.le_of_ble_eq_true rfl, trivial⟩ s8 ?_
      refine x_goto (q219c1 56 rfl) ?_
      exact H
    · replace H := H.2 c6
      obtain ⟨⟨s9, s10, s11, s12, s13⟩, H⟩ := H
      refine x_aload_n (q219c1 43 rfl) rfl ?_
      refine x_getr (q219c1 44 rfl) fd56_17 ?_
      refine x_bipush (q219c1 45 rfl) ?_
      refine x_iload (q219c1 46 rfl) rfl ?_
      refine x_imul (q219c1 47 rfl) s9 ?_
      refine x_iload (q219c1 48 rfl) rfl ?_
      refine x_iadd (q219c1 49 rfl) s10 ?_
      refine x_iaload (q219c1 50 rfl) (al69 _) rfl (ag_l rfl rfl (rfl)) s11 ?_
      refine x_goto (q219c1 51 rfl) ?_
      refine x_iadd (q219c1 53 rfl) s12 ?_
      refine x_istore (q219c1 54 rfl) ⟨Nat.le_of_ble_eq_true rfl, trivial⟩ ?_
      refine x_iinc (q219c1 55 rfl) rfl ⟨Nat.le_of_ble_eq_true rfl, trivial⟩ s13 ?_
      refine x_goto (q219c1 56 rfl) ?_
      exact H
theorem e_Dialects_search {h : am_H} {x1 : Int} {x2 : Int} {P : am_H → Prop} (H : ∃ h1, am_cd 15 204 [.inr (.inr 33), .inl x2] h none h1 ∧ (∃ h3, am_cd 15 141 [.inr (.inr 33), .inl 0, .inl 0, .inl 0, .inl x1] (am_up h1 33 8 1000000) none h3 ∧ P h3)) : ∃ h1, am_cd 16 220 [.inr (.inr 33), .inl x1, .inl x2] h none h1 ∧ P h1 := by
  refine am_outv (d := 15) (ls := [some (.inr (.inr 33)), some (.inl x1), some (.inl x2)]) rfl ab220 ml220 (Nat.le_of_ble_eq_true rfl) np220 rfl ?_
  refine x_aload_n (q220c0 0 rfl) rfl ?_
  refine x_iload_n (q220c0 1 rfl) rfl ?_
  obtain ⟨h1, w2, H⟩ := H
  refine x_cvv (q220c0 2 rfl) rfl oc33 rfl (Nat.le_of_ble_eq_true rfl) ⟨h1, w2, ?_⟩
  refine x_aload_n (q220c0 3 rfl) rfl ?_
  refine x_ldc (q220c0 4 rfl) ?_
  refine x_putf (q220c0 5 rfl) fd33_8 ?_
  refine x_aload_n (q220c0 6 rfl) rfl ?_
  refine x_iconst (q220c0 7 rfl) ?_
  refine x_iconst (q220c0 8 rfl) ?_
  refine x_iconst (q220c0 9 rfl) ?_
  refine x_iload_n (q220c0 10 rfl) rfl ?_
  obtain ⟨h3, w4, H⟩ := H
  refine x_cvv (q220c0 11 rfl) rfl oc33 rfl (Nat.le_of_ble_eq_true rfl) ⟨h3, w4, ?_⟩
  exact x_ret (q220c0 12 rfl) H
theorem e_Dialects_judge {h : am_H} {x2 : Int} {x3 : Int} {x4 : Int} {P : Int → am_H → Prop} (H : ∃ h1, am_cd 5 204 [.inr (.inr 33), .inl x4] h none h1 ∧ am_x (am_cd 5) 221 (am_qi P) 0 15 [some (.inr (.inr 33)), some (.inr (.inr 47)), some (.inl x2), some (.inl x3), none, some (.inl 0), some (.inl 0), some (.inl 0), none] [] h1) : ∃ a h1, am_cd 6 221 [.inr (.inr 33), .inr (.inr 47), .inl x2, .inl x3, .inl x4] h (some (.inl a)) h1 ∧ P a h1 := by
  refine am_outi (d := 5) (ls := [some (.inr (.inr 33)), some (.inr (.inr 47)), some (.inl x2), some (.inl x3), some (.inl x4), none, none, none, none]) rfl ab221 ml221 (Nat.le_of_ble_eq_true rfl) np221 rfl ?_
  refine x_aload_n (q221c0 0 rfl) rfl ?_
  refine x_iload (q221c0 1 rfl) rfl ?_
  obtain ⟨h1, w2, H⟩ := H
  refine x_cvv (q221c0 2 rfl) rfl oc33 rfl (Nat.le_of_ble_eq_true rfl) ⟨h1, w2, ?_⟩
  refine x_iconst (q221c0 3 rfl) ?_
  refine x_istore (q221c0 4 rfl) ⟨Nat.le_of_ble_eq_true rfl, trivial⟩ ?_
  refine x_iconst (q221c0 5 rfl) ?_
  refine x_istore (q221c0 6 rfl) ⟨Nat.le_of_ble_eq_true rfl, trivial⟩ ?_
  refine x_iconst (q221c0 7 rfl) ?_
  refine x_istore (q221c0 8 rfl) ⟨Nat.le_of_ble_eq_true rfl, trivial⟩ ?_
  exact am_x_weak (ls' := [some (.inr (.inr 33)), some (.inr (.inr 47)), some (.inl x2), some (.inl x3), some (.inl x4), some (.inl 0), some (.inl 0), some (.inl 0), none]) (lle_c (lle_c (lle_c (lle_c (lle_d trivial (lle_c (lle_c (lle_c (lle_c (lle_nil)))))))))) H
theorem g_Dialects_judge_15 {h : am_H} {x2 : Int} {x3 : Int} {x5 : Int} {x6 : Int} {x7 : Int} {P : Int → am_H → Prop} (H : (h 33 9 ≤ x7 → ((0 ≤ x2 ∧ x2 < 4) ∧ ((h 49 x2 = h 1 0 → ((x6 ≤ x3 → P (-1) h) ∧ (x3 < x6 → P 100 h))) ∧ (h 49 x2 ≠ h 1 0 → P (h 49 x2) h)))) ∧ (x7 < h 33 9 → ((0 ≤ x2 ∧ x2 < 4) ∧ ((h 49 x2 ≤ x7 → ((h 49 x2 = h 1 0 → ((x6 ≤ x3 → P (-1) h) ∧ (x3 < x6 → P 100 h))) ∧ (h 49 x2 ≠ h 1 0 → P (h 49 x2) h))) ∧ (x7 < h 49 x2 → ((am_ok (x2 * 20) ∧ am_ok (x2 * 20 + x7) ∧ (0 ≤ x2 * 20 + x7 ∧ x2 * 20 + x7 < 80)) ∧ ((h 50 (20 * x2 + x7) < 0 → P x7 h) ∧ (0 ≤ h 50 (20 * x2 + x7) → ((x5 < h 50 (20 * x2 + x7) → P x7 h) ∧ (h 50 (20 * x2 + x7) ≤ x5 → ((h 50 (20 * x2 + x7) < 4 → ((am_ok (x7 * 4) ∧ am_ok (x7 * 4 + h 50 (20 * x2 + x7)) ∧ (0 ≤ x7 * 4 + h 50 (20 * x2 + x7) ∧ x7 * 4 + h 50 (20 * x2 + x7) < 40)) ∧ ((h 50 (20 * x2 + x7) ≠ x5 → ((am_ok (h 36 (4 * x7 + h 50 (20 * x2 + x7)) + 0)) ∧ ((am_ok (x6 + (h 36 (4 * x7 + h 50 (20 * x2 + x7)) + 0))) ∧ (∃ h21, am_cd 5 19 [.inr (.inr 33), .inl x7, .inl (h 50 (20 * x2 + x7)), .inl 1] h none h21 ∧ ((am_ok (h 50 (20 * x2 + x7) + 1)) ∧ ((am_ok (x7 + 1)) ∧ am_x (am_cd 5) 221 (am_qi P) 0 15 [some (.inr (.inr 33)), some (.inr (.inr 47)), some (.inl x2), some (.inl x3), none, some (.inl (max x5 (h 50 (20 * x2 + x7) + 1))), some (.inl (x6 + (h 36 (4 * x7 + h 50 (20 * x2 + x7)) + 0))), some (.inl (x7 + 1)), none] [] h21)))))) ∧ (h 50 (20 * x2 + x7) = x5 → ((am_ok (h 36 (4 * x7 + h 50 (20 * x2 + x7)) + 5)) ∧ ((am_ok (x6 + (h 36 (4 * x7 + h 50 (20 * x2 + x7)) + 5))) ∧ (∃ h27, am_cd 5 19 [.inr (.inr 33), .inl x7, .inl (h 50 (20 * x2 + x7)), .inl 1] h none h27 ∧ ((am_ok (h 50 (20 * x2 + x7) + 1)) ∧ ((am_ok (x7 + 1)) ∧ am_x (am_cd 5) 221 (am_qi P) 0 15 [some (.inr (.inr 33)), some (.inr (.inr 47)), some (.inl x2), some (.inl x3), none, some (.inl (max x5 (h 50 (20 * x2 + x7) + 1))), some (.inl (x6 + (h 36 (4 * x7 + h 50 (20 * x2 + x7)) + 5))), some (.inl (x7 + 1)), none] [] h27))))))))) ∧ (4 ≤ h 50 (20 * x2 + x7) → P x7 h)))))))))))) : am_x (am_cd 5) 221 (am_qi P) 0 15 [some (.inr (.inr 33)), some (.inr (.inr 47)), some (.inl x2), some (.inl x3), none, some (.inl x5), some (.inl x6), some (.inl x7), none] [] h := by
  refine x_iload (q221c0 9 rfl) rfl ?_
  refine x_aload_n (q221c0 10 rfl) rfl ?_
  refine x_getf (q221c0 11 rfl) fd33_9 (rfl) ?_
  refine x_icmp_ge (q221c0 12 rfl) (fun c1 => ?_) (fun c1 => ?_)
  · replace H := H.1 c1
    refine x_aload_n (q221c0 54 rfl) rfl ?_
    refine x_iload_n (q221c0 55 rfl) rfl ?_
    refine x_cvi (q221c0 56 rfl) rfl oc47 rfl (Nat.le_of_ble_eq_true rfl) (am_lifti (Nat.le_of_ble_eq_true rfl) (e_Sheets_sizeOf (r1 := h 49 x2) (rfl) ?_))
    obtain ⟨s2, H⟩ := H
    refine ⟨s2, ?_⟩
    refine x_aload_n (q221c0 57 rfl) rfl ?_
    refine x_getr (q221c0 58 rfl) fd33_0 ?_
    refine x_cvi (q221c0 59 rfl) rfl oc1 rfl (Nat.le_of_ble_eq_true rfl) (am_lifti (Nat.le_of_ble_eq_true rfl) (e_Land_size (r1 := h 1 0) (rfl) ?_))
    refine x_icmp_eq (q221c1 0 rfl) (fun c3 => ?_) (fun c3 => ?_)
    · replace H := H.1 c3
      refine x_iload (q221c1 5 rfl) rfl ?_
      refine x_iload_n (q221c1 6 rfl) rfl ?_
      refine x_icmp_le (q221c1 7 rfl) (fun c4 => ?_) (fun c4 => ?_)
      · replace H := H.1 c4
        refine x_iconst (q221c1 10 rfl) ?_
        exact x_ireti (q221c1 11 rfl) zb221 H
      · replace H := H.2 c4
        refine x_bipush (q221c1 8 rfl) ?_
        refine x_goto (q221c1 9 rfl) ?_
        exact x_ireti (q221c1 11 rfl) zb221 H
    · replace H := H.2 c3
      refine x_aload_n (q221c1 1 rfl) rfl ?_
      refine x_iload_n (q221c1 2 rfl) rfl ?_
      refine x_cvi (q221c1 3 rfl) rfl oc47 rfl (Nat.le_of_ble_eq_true rfl) (am_lifti (Nat.le_of_ble_eq_true rfl) (e_Sheets_sizeOf (r1 := h 49 x2) (rfl) ?_))
      refine ⟨s2, ?_⟩
      exact x_ireti (q221c1 4 rfl) zb221 H
  · replace H := H.2 c1
    refine x_iload (q221c0 13 rfl) rfl ?_
    refine x_aload_n (q221c0 14 rfl) rfl ?_
    refine x_iload_n (q221c0 15 rfl) rfl ?_
    refine x_cvi (q221c0 16 rfl) rfl oc47 rfl (Nat.le_of_ble_eq_true rfl) (am_lifti (Nat.le_of_ble_eq_true rfl) (e_Sheets_sizeOf (r1 := h 49 x2) (rfl) ?_))
    obtain ⟨s5, H⟩ := H
    refine ⟨s5, ?_⟩
    refine x_icmp_ge (q221c0 17 rfl) (fun c6 => ?_) (fun c6 => ?_)
    · replace H := H.1 c6
      refine x_aload_n (q221c0 54 rfl) rfl ?_
      refine x_iload_n (q221c0 55 rfl) rfl ?_
      refine x_cvi (q221c0 56 rfl) rfl oc47 rfl (Nat.le_of_ble_eq_true rfl) (am_lifti (Nat.le_of_ble_eq_true rfl) (e_Sheets_sizeOf (r1 := h 49 x2) (rfl) ?_))
      refine ⟨s5, ?_⟩
      refine x_aload_n (q221c0 57 rfl) rfl ?_
      refine x_getr (q221c0 58 rfl) fd33_0 ?_
      refine x_cvi (q221c0 59 rfl) rfl oc1 rfl (Nat.le_of_ble_eq_true rfl) (am_lifti (Nat.le_of_ble_eq_true rfl) (e_Land_size (r1 := h 1 0) (rfl) ?_))
      refine x_icmp_eq (q221c1 0 rfl) (fun c7 => ?_) (fun c7 => ?_)
      · replace H := H.1 c7
        refine x_iload (q221c1 5 rfl) rfl ?_
        refine x_iload_n (q221c1 6 rfl) rfl ?_
        refine x_icmp_le (q221c1 7 rfl) (fun c8 => ?_) (fun c8 => ?_)
        · replace H := H.1 c8
          refine x_iconst (q221c1 10 rfl) ?_
          exact x_ireti (q221c1 11 rfl) zb221 H
        · replace H := H.2 c8
          refine x_bipush (q221c1 8 rfl) ?_
          refine x_goto (q221c1 9 rfl) ?_
          exact x_ireti (q221c1 11 rfl) zb221 H
      · replace H := H.2 c7
        refine x_aload_n (q221c1 1 rfl) rfl ?_
        refine x_iload_n (q221c1 2 rfl) rfl ?_
        refine x_cvi (q221c1 3 rfl) rfl oc47 rfl (Nat.le_of_ble_eq_true rfl) (am_lifti (Nat.le_of_ble_eq_true rfl) (e_Sheets_sizeOf (r1 := h 49 x2) (rfl) ?_))
        refine ⟨s5, ?_⟩
        exact x_ireti (q221c1 4 rfl) zb221 H
    · replace H := H.2 c6
      refine x_aload_n (q221c0 18 rfl) rfl ?_
      refine x_iload_n (q221c0 19 rfl) rfl ?_
      refine x_iload (q221c0 20 rfl) rfl ?_
      refine x_cvi (q221c0 21 rfl) rfl oc47 rfl (Nat.le_of_ble_eq_true rfl) (am_lifti (Nat.le_of_ble_eq_true rfl) (e_Sheets_read (r1 := h 50 (20 * x2 + x7)) (rfl) ?_))
      obtain ⟨⟨s9, s10, s11⟩, H⟩ := H
      refine ⟨⟨s9, s10, s11⟩, ?_⟩
      refine x_istore (q221c0 22 rfl) ⟨Nat.le_of_ble_eq_true rfl, trivial⟩ ?_
      refine x_iload (q221c0 23 rfl) rfl ?_
      refine x_if_lt (q221c0 24 rfl) (fun c12 => ?_) (fun c12 => ?_)
      · replace H := H.1 c12
        refine x_iload (q221c0 31 rfl) rfl ?_
        exact x_ireti (q221c0 32 rfl) zb221 H
      · replace H := H.2 c12
        refine x_iload (q221c0 25 rfl) rfl ?_
        refine x_iload (q221c0 26 rfl) rfl ?_
        refine x_icmp_gt (q221c0 27 rfl) (fun c13 => ?_) (fun c13 => ?_)
        · replace H := H.1 c13
          refine x_iload (q221c0 31 rfl) rfl ?_
          exact x_ireti (q221c0 32 rfl) zb221 H
        · replace H := H.2 c13
          refine x_iload (q221c0 28 rfl) rfl ?_
          refine x_iconst (q221c0 29 rfl) ?_
          refine x_icmp_lt (q221c0 30 rfl) (fun c14 => ?_) (fun c14 => ?_)
          · replace H := H.1 c14
            refine x_iload (q221c0 33 rfl) rfl ?_
            refine x_aload_n (q221c0 34 rfl) rfl ?_
            refine x_iload (q221c0 35 rfl) rfl ?_
            refine x_iload (q221c0 36 rfl) rfl ?_
            refine x_iload (q221c0 37 rfl) rfl ?_
            refine x_cvi (q221c0 38 rfl) rfl oc33 rfl (Nat.le_of_ble_eq_true rfl) (am_lifti (Nat.le_of_ble_eq_true rfl) (e_Dialects_costOf (r1 := h 36 (4 * x7 + h 50 (20 * x2 + x7))) (rfl) ?_))
            obtain ⟨⟨s15, s16, s17⟩, H⟩ := H
            refine ⟨⟨s15, s16, s17⟩, ?_⟩
            refine ⟨fun c18 => ?_, fun c18 => ?_⟩
            · replace H := H.1 c18
              obtain ⟨s19, H⟩ := H
              refine ⟨s19, ?_⟩
              obtain ⟨s20, H⟩ := H
              refine x_iadd (q221c0 39 rfl) s20 ?_
              refine x_istore (q221c0 40 rfl) ⟨Nat.le_of_ble_eq_true rfl, trivial⟩ ?_
              refine x_aload_n (q221c0 41 rfl) rfl ?_
              refine x_iload (q221c0 42 rfl) rfl ?_
              refine x_iload (q221c0 43 rfl) rfl ?_
              refine x_iconst (q221c0 44 rfl) ?_
              obtain ⟨h21, w22, H⟩ := H
              refine x_cvv (q221c0 45 rfl) rfl oc33 rfl (Nat.le_of_ble_eq_true rfl) ⟨h21, w22, ?_⟩
              obtain ⟨s23, H⟩ := H
              refine x_iload (q221c0 46 rfl) rfl ?_
              refine x_iload (q221c0 47 rfl) rfl ?_
              refine x_iconst (q221c0 48 rfl) ?_
              refine x_iadd (q221c0 49 rfl) s23 ?_
              refine x_csi (q221c0 50 rfl) rfl rfl rfl (Nat.le_of_ble_eq_true rfl) (am_lifti (Nat.le_of_ble_eq_true rfl) (e_Math_max   ?_))
              obtain ⟨s24, H⟩ := H
              refine x_istore (q221c0 51 rfl) ⟨Nat.le_of_ble_eq_true rfl, trivial⟩ ?_
              refine x_iinc (q221c0 52 rfl) rfl ⟨Nat.le_of_ble_eq_true rfl, trivial⟩ s24 ?_
              refine x_goto (q221c0 53 rfl) ?_
              exact am_x_weak (ls' := [some (.inr (.inr 33)), some (.inr (.inr 47)), some (.inl x2), some (.inl x3), none, some (.inl (max x5 (h 50 (20 * x2 + x7) + 1))), some (.inl (x6 + (h 36 (4 * x7 + h 50 (20 * x2 + x7)) + 0))), some (.inl (x7 + 1)), some (.inl (h 50 (20 * x2 + x7)))]) (lle_c (lle_c (lle_c (lle_c (lle_c (lle_c (lle_c (lle_c (lle_d trivial (lle_nil)))))))))) H
            · replace H := H.2 c18
              obtain ⟨s25, H⟩ := H
              refine ⟨s25, ?_⟩
              obtain ⟨s26, H⟩ := H
              refine x_iadd (q221c0 39 rfl) s26 ?_
              refine x_istore (q221c0 40 rfl) ⟨Nat.le_of_ble_eq_true rfl, trivial⟩ ?_
              refine x_aload_n (q221c0 41 rfl) rfl ?_
              refine x_iload (q221c0 42 rfl) rfl ?_
              refine x_iload (q221c0 43 rfl) rfl ?_
              refine x_iconst (q221c0 44 rfl) ?_
              obtain ⟨h27, w28, H⟩ := H
              refine x_cvv (q221c0 45 rfl) rfl oc33 rfl (Nat.le_of_ble_eq_true rfl) ⟨h27, w28, ?_⟩
              obtain ⟨s29, H⟩ := H
              refine x_iload (q221c0 46 rfl) rfl ?_
              refine x_iload (q221c0 47 rfl) rfl ?_
              refine x_iconst (q221c0 48 rfl) ?_
              refine x_iadd (q221c0 49 rfl) s29 ?_
              refine x_csi (q221c0 50 rfl) rfl rfl rfl (Nat.le_of_ble_eq_true rfl) (am_lifti (Nat.le_of_ble_eq_true rfl) (e_Math_max   ?_))
              obtain ⟨s30, H⟩ := H
              refine x_istore (q221c0 51 rfl) ⟨Nat.le_of_ble_eq_true rfl, trivial⟩ ?_
              refine x_iinc (q221c0 52 rfl) rfl ⟨Nat.le_of_ble_eq_true rfl, trivial⟩ s30 ?_
              refine x_goto (q221c0 53 rfl) ?_
              exact am_x_weak (ls' := [some (.inr (.inr 33)), some (.inr (.inr 47)), some (.inl x2), some (.inl x3), none, some (.inl (max x5 (h 50 (20 * x2 + x7) + 1))), some (.inl (x6 + (h 36 (4 * x7 + h 50 (20 * x2 + x7)) + 5))), some (.inl (x7 + 1)), some (.inl (h 50 (20 * x2 + x7)))]) (lle_c (lle_c (lle_c (lle_c (lle_c (lle_c (lle_c (lle_c (lle_d trivial (lle_nil)))))))))) H
          · replace H := H.2 c14
            refine x_iload (q221c0 31 rfl) rfl ?_
            exact x_ireti (q221c0 32 rfl) zb221 H
theorem e_Tour_plan {h : am_H} {x1 : Int} {x2 : Int} {P : am_H → Prop} (H : ∃ h1, am_cd 5 207 [.inr (.inr 39), .inl x1, .inl x2] h none h1 ∧ ((am_ok (am_shl 1 (h1 39 1) - 1)) ∧ am_x (am_cd 5) 222 (am_qv P) 0 18 [some (.inr (.inr 39)), none, none, none, some (.inl (am_shl 1 (h1 39 1) - 1)), none] [] h1)) : ∃ h1, am_cd 6 222 [.inr (.inr 39), .inl x1, .inl x2] h none h1 ∧ P h1 := by
  refine am_outv (d := 5) (ls := [some (.inr (.inr 39)), some (.inl x1), some (.inl x2), none, none, none]) rfl ab222 ml222 (Nat.le_of_ble_eq_true rfl) np222 rfl ?_
  refine x_aload_n (q222c0 0 rfl) rfl ?_
  refine x_iload_n (q222c0 1 rfl) rfl ?_
  refine x_iload_n (q222c0 2 rfl) rfl ?_
  obtain ⟨h1, w2, H⟩ := H
  refine x_cvv (q222c0 3 rfl) rfl oc39 rfl (Nat.le_of_ble_eq_true rfl) ⟨h1, w2, ?_⟩
  obtain ⟨s3, H⟩ := H
  refine x_iconst (q222c0 4 rfl) ?_
  refine x_aload_n (q222c0 5 rfl) rfl ?_
  refine x_getf (q222c0 6 rfl) fd39_1 (rfl) ?_
  refine x_ishl (q222c0 7 rfl) ?_
  refine x_iconst (q222c0 8 rfl) ?_
  refine x_isub (q222c0 9 rfl) s3 ?_
  refine x_istore_n (q222c0 10 rfl) ⟨Nat.le_of_ble_eq_true rfl, trivial⟩ ?_
  refine x_iload_n (q222c0 11 rfl) rfl ?_
  refine x_istore (q222c0 12 rfl) ⟨Nat.le_of_ble_eq_true rfl, trivial⟩ ?_
  exact am_x_weak (ls' := [some (.inr (.inr 39)), some (.inl x1), some (.inl x2), some (.inl (am_shl 1 (h1 39 1) - 1)), some (.inl (am_shl 1 (h1 39 1) - 1)), none]) (lle_c (lle_d trivial (lle_d trivial (lle_d trivial (lle_c (lle_c (lle_nil))))))) H
theorem g_Tour_plan_18 {h : am_H} {x4 : Int} {P : am_H → Prop} (H : (x4 ≤ 0 → (∃ a3 h2, am_cd 5 152 [.inr (.inr 39), .inl 0, .inl (h 39 1)] h (some (.inl a3)) h2 ∧ (∃ h5, am_cd 5 153 [.inr (.inr 39)] (am_up h2 39 6 a3) none h5 ∧ P h5))) ∧ (0 < x4 → am_x (am_cd 5) 222 (am_qv P) 0 26 [some (.inr (.inr 39)), none, none, none, some (.inl x4), some (.inl 0)] [] h)) : am_x (am_cd 5) 222 (am_qv P) 0 18 [some (.inr (.inr 39)), none, none, none, some (.inl x4), none] [] h := by
  refine x_iload (q222c0 13 rfl) rfl ?_
  refine x_if_le (q222c0 14 rfl) (fun c1 => ?_) (fun c1 => ?_)
  · replace H := H.1 c1
    refine x_aload_n (q222c0 43 rfl) rfl ?_
    refine x_aload_n (q222c0 44 rfl) rfl ?_
    refine x_iconst (q222c0 45 rfl) ?_
    refine x_aload_n (q222c0 46 rfl) rfl ?_
    refine x_getf (q222c0 47 rfl) fd39_1 (rfl) ?_
    obtain ⟨a3, h2, w4, H⟩ := H
    refine x_cvi (q222c0 48 rfl) rfl oc39 rfl (Nat.le_of_ble_eq_true rfl) ⟨a3, h2, w4, ?_⟩
    refine x_putf (q222c0 49 rfl) fd39_6 ?_
    refine x_aload_n (q222c0 50 rfl) rfl ?_
    obtain ⟨h5, w6, H⟩ := H
    refine x_cvv (q222c0 51 rfl) rfl oc39 rfl (Nat.le_of_ble_eq_true rfl) ⟨h5, w6, ?_⟩
    exact x_ret (q222c0 52 rfl) H
  · replace H := H.2 c1
    refine x_iconst (q222c0 15 rfl) ?_
    refine x_istore (q222c0 16 rfl) ⟨Nat.le_of_ble_eq_true rfl, trivial⟩ ?_
    exact H
theorem g_Tour_plan_26 {h : am_H} {x4 : Int} {x5 : Int} {P : am_H → Prop} (H : (h 39 1 ≤ x5 → ((am_ok (x4 + (-1))) ∧ am_x (am_cd 5) 222 (am_qv P) 0 18 [some (.inr (.inr 39)), none, none, none, some (.inl (x4 + (-1))), none] [] h)) ∧ (x5 < h 39 1 → ((am_and x4 (am_shl 1 x5) = 0 → ((am_ok (x5 + 1)) ∧ am_x (am_cd 5) 222 (am_qv P) 0 26 [some (.inr (.inr 39)), none, none, none, some (.inl x4), some (.inl (x5 + 1))] [] h)) ∧ (am_and x4 (am_shl 1 x5) ≠ 0 → ((am_ok (x4 * 7) ∧ am_ok (x4 * 7 + x5)) ∧ (∃ a8 h7, am_cd 5 152 [.inr (.inr 39), .inl x4, .inl x5] h (some (.inl a8)) h7 ∧ (((0 ≤ x4 * 7 + x5 ∧ x4 * 7 + x5 < 896) ∧ am_ok (x5 + 1)) ∧ am_x (am_cd 5) 222 (am_qv P) 0 26 [some (.inr (.inr 39)), none, none, none, some (.inl x4), some (.inl (x5 + 1))] [] (am_up h7 42 (7 * x4 + x5) a8)))))))) : am_x (am_cd 5) 222 (am_qv P) 0 26 [some (.inr (.inr 39)), none, none, none, some (.inl x4), some (.inl x5)] [] h := by
  refine x_iload (q222c0 17 rfl) rfl ?_
  refine x_aload_n (q222c0 18 rfl) rfl ?_
  refine x_getf (q222c0 19 rfl) fd39_1 (rfl) ?_
  refine x_icmp_ge (q222c0 20 rfl) (fun c1 => ?_) (fun c1 => ?_)
  · replace H := H.1 c1
    obtain ⟨s2, H⟩ := H
    refine x_iinc (q222c0 41 rfl) rfl ⟨Nat.le_of_ble_eq_true rfl, trivial⟩ s2 ?_
    refine x_goto (q222c0 42 rfl) ?_
    exact am_x_weak (ls' := [some (.inr (.inr 39)), none, none, none, some (.inl (x4 + (-1))), some (.inl x5)]) (lle_c (lle_c (lle_c (lle_c (lle_c (lle_d trivial (lle_nil))))))) H
  · replace H := H.2 c1
    refine x_iload (q222c0 21 rfl) rfl ?_
    refine x_iconst (q222c0 22 rfl) ?_
    refine x_iload (q222c0 23 rfl) rfl ?_
    refine x_ishl (q222c0 24 rfl) ?_
    refine x_iand (q222c0 25 rfl) ?_
    refine x_if_eq (q222c0 26 rfl) (fun c3 => ?_) (fun c3 => ?_)
    · replace H := H.1 c3
      obtain ⟨s4, H⟩ := H
      refine x_iinc (q222c0 39 rfl) rfl ⟨Nat.le_of_ble_eq_true rfl, trivial⟩ s4 ?_
      refine x_goto (q222c0 40 rfl) ?_
      exact H
    · replace H := H.2 c3
      obtain ⟨⟨s5, s6⟩, H⟩ := H
      refine x_aload_n (q222c0 27 rfl) rfl ?_
      refine x_getr (q222c0 28 rfl) fd39_4 ?_
      refine x_iload (q222c0 29 rfl) rfl ?_
      refine x_bipush (q222c0 30 rfl) ?_
      refine x_imul (q222c0 31 rfl) s5 ?_
      refine x_iload (q222c0 32 rfl) rfl ?_
      refine x_iadd (q222c0 33 rfl) s6 ?_
      refine x_aload_n (q222c0 34 rfl) rfl ?_
      refine x_iload (q222c0 35 rfl) rfl ?_
      refine x_iload (q222c0 36 rfl) rfl ?_
      obtain ⟨a8, h7, w9, H⟩ := H
      refine x_cvi (q222c0 37 rfl) rfl oc39 rfl (Nat.le_of_ble_eq_true rfl) ⟨a8, h7, w9, ?_⟩
      obtain ⟨⟨s10, s11⟩, H⟩ := H
      refine x_iastore (q222c0 38 rfl) (al42 _) rfl (Nat.le_of_ble_eq_true rfl) s10 (j := 7 * x4 + x5) (by omega) ?_
      refine x_iinc (q222c0 39 rfl) rfl ⟨Nat.le_of_ble_eq_true rfl, trivial⟩ s11 ?_
      refine x_goto (q222c0 40 rfl) ?_
      exact H
theorem e_At_border {h : am_H} {x1 : Int} {x2 : Int} {x3 : Int} {x4 : Int} {P : Int → am_H → Prop} (H : ((0 ≤ x1 ∧ x1 < 6) → (((0 ≤ x2 ∧ x2 < h 11 0) → (((0 ≤ x3 ∧ x3 < h 11 0) → ((x4 < 0 → ((am_ok (h 0 13 + 1)) ∧ P (-100001) (am_up h 0 13 (h 0 13 + 1)))) ∧ (0 ≤ x4 → ((x4 ≤ 3 → ((x2 ≠ x3 → (∃ h8, am_cd 5 202 [.inr (.inr 32), .inl x1, .inl x2, .inl x3, .inl (h 0 12)] h none h8 ∧ (∃ a11 h10, am_cd 5 17 [.inr (.inr 32), .inl x4] h8 (some (.inl a11)) h10 ∧ P a11 h10))) ∧ (x2 = x3 → ((am_ok (h 0 13 + 1)) ∧ P (-100003) (am_up h 0 13 (h 0 13 + 1)))))) ∧ (3 < x4 → ((am_ok (h 0 13 + 1)) ∧ P (-100001) (am_up h 0 13 (h 0 13 + 1)))))))) ∧ ((¬(0 ≤ x3 ∧ x3 < h 11 0)) → ((am_ok (h 0 13 + 1)) ∧ P (-100001) (am_up h 0 13 (h 0 13 + 1)))))) ∧ ((¬(0 ≤ x2 ∧ x2 < h 11 0)) → ((am_ok (h 0 13 + 1)) ∧ P (-100001) (am_up h 0 13 (h 0 13 + 1)))))) ∧ ((¬(0 ≤ x1 ∧ x1 < 6)) → ((am_ok (h 0 13 + 1)) ∧ P (-100001) (am_up h 0 13 (h 0 13 + 1))))) : ∃ a h1, am_cd 6 223 [.inr (.inr 0), .inl x1, .inl x2, .inl x3, .inl x4] h (some (.inl a)) h1 ∧ P a h1 := by
  refine am_outi (d := 5) (ls := [some (.inr (.inr 0)), some (.inl x1), some (.inl x2), some (.inl x3), some (.inl x4)]) rfl ab223 ml223 (Nat.le_of_ble_eq_true rfl) np223 rfl ?_
  refine x_iload_n (q223c0 0 rfl) rfl ?_
  refine x_csi (q223c0 1 rfl) rfl rfl rfl (Nat.le_of_ble_eq_true rfl) (am_lifti (Nat.le_of_ble_eq_true rfl) (e_At_isThing   ?_))
  refine ⟨fun c1 => ?_, fun c1 => ?_⟩
  · replace H := H.1 c1
    refine x_if_eq_f (q223c0 2 rfl) (by decide) ?_
    refine x_aload_n (q223c0 3 rfl) rfl ?_
    refine x_getr (q223c0 4 rfl) fd0_2 ?_
    refine x_iload_n (q223c0 5 rfl) rfl ?_
    refine x_cvi (q223c0 6 rfl) rfl oc11 rfl (Nat.le_of_ble_eq_true rfl) (am_lifti (Nat.le_of_ble_eq_true rfl) (e_Forms_has (r1 := h 11 0) (rfl) ?_))
    refine ⟨fun c2 => ?_, fun c2 => ?_⟩
    · replace H := H.1 c2
      refine x_if_eq_f (q223c0 7 rfl) (by decide) ?_
      refine x_aload_n (q223c0 8 rfl) rfl ?_
      refine x_getr (q223c0 9 rfl) fd0_2 ?_
      refine x_iload_n (q223c0 10 rfl) rfl ?_
      refine x_cvi (q223c0 11 rfl) rfl oc11 rfl (Nat.le_of_ble_eq_true rfl) (am_lifti (Nat.le_of_ble_eq_true rfl) (e_Forms_has (r1 := h 11 0) (rfl) ?_))
      refine ⟨fun c3 => ?_, fun c3 => ?_⟩
      · replace H := H.1 c3
        refine x_if_eq_f (q223c0 12 rfl) (by decide) ?_
        refine x_iload (q223c0 13 rfl) rfl ?_
        refine x_if_lt (q223c0 14 rfl) (fun c4 => ?_) (fun c4 => ?_)
        · replace H := H.1 c4
          refine x_aload_n (q223c0 18 rfl) rfl ?_
          refine x_ldc (q223c0 19 rfl) ?_
          refine x_cvi (q223c0 20 rfl) rfl oc0 rfl (Nat.le_of_ble_eq_true rfl) (am_lifti (Nat.le_of_ble_eq_true rfl) (e_At_finding (r1 := h 0 13) (rfl) ?_))
          obtain ⟨s5, H⟩ := H
          refine ⟨s5, ?_⟩
          exact x_ireti (q223c0 21 rfl) zb223 H
        · replace H := H.2 c4
          refine x_iload (q223c0 15 rfl) rfl ?_
          refine x_iconst (q223c0 16 rfl) ?_
          refine x_icmp_le (q223c0 17 rfl) (fun c6 => ?_) (fun c6 => ?_)
          · replace H := H.1 c6
            refine x_iload_n (q223c0 22 rfl) rfl ?_
            refine x_iload_n (q223c0 23 rfl) rfl ?_
            refine x_icmp_ne (q223c0 24 rfl) (fun c7 => ?_) (fun c7 => ?_)
            · replace H := H.1 c7
              refine x_aload_n (q223c0 29 rfl) rfl ?_
              refine x_getr (q223c0 30 rfl) fd0_5 ?_
              refine x_iload_n (q223c0 31 rfl) rfl ?_
              refine x_iload_n (q223c0 32 rfl) rfl ?_
              refine x_iload_n (q223c0 33 rfl) rfl ?_
              refine x_aload_n (q223c0 34 rfl) rfl ?_
              refine x_getf (q223c0 35 rfl) fd0_12 (rfl) ?_
              obtain ⟨h8, w9, H⟩ := H
              refine x_cvv (q223c0 36 rfl) rfl oc32 rfl (Nat.le_of_ble_eq_true rfl) ⟨h8, w9, ?_⟩
              refine x_aload_n (q223c0 37 rfl) rfl ?_
              refine x_getr (q223c0 38 rfl) fd0_5 ?_
              refine x_iload (q223c0 39 rfl) rfl ?_
              obtain ⟨a11, h10, w12, H⟩ := H
              refine x_cvi (q223c0 40 rfl) rfl oc32 rfl (Nat.le_of_ble_eq_true rfl) ⟨a11, h10, w12, ?_⟩
              exact x_ireti (q223c0 41 rfl) zb223 H
            · replace H := H.2 c7
              refine x_aload_n (q223c0 25 rfl) rfl ?_
              refine x_ldc (q223c0 26 rfl) ?_
              refine x_cvi (q223c0 27 rfl) rfl oc0 rfl (Nat.le_of_ble_eq_true rfl) (am_lifti (Nat.le_of_ble_eq_true rfl) (e_At_finding (r1 := h 0 13) (rfl) ?_))
              obtain ⟨s13, H⟩ := H
              refine ⟨s13, ?_⟩
              exact x_ireti (q223c0 28 rfl) zb223 H
          · replace H := H.2 c6
            refine x_aload_n (q223c0 18 rfl) rfl ?_
            refine x_ldc (q223c0 19 rfl) ?_
            refine x_cvi (q223c0 20 rfl) rfl oc0 rfl (Nat.le_of_ble_eq_true rfl) (am_lifti (Nat.le_of_ble_eq_true rfl) (e_At_finding (r1 := h 0 13) (rfl) ?_))
            obtain ⟨s14, H⟩ := H
            refine ⟨s14, ?_⟩
            exact x_ireti (q223c0 21 rfl) zb223 H
      · replace H := H.2 c3
        refine x_if_eq_t (q223c0 12 rfl) (by decide) ?_
        refine x_aload_n (q223c0 18 rfl) rfl ?_
        refine x_ldc (q223c0 19 rfl) ?_
        refine x_cvi (q223c0 20 rfl) rfl oc0 rfl (Nat.le_of_ble_eq_true rfl) (am_lifti (Nat.le_of_ble_eq_true rfl) (e_At_finding (r1 := h 0 13) (rfl) ?_))
        obtain ⟨s15, H⟩ := H
        refine ⟨s15, ?_⟩
        exact x_ireti (q223c0 21 rfl) zb223 H
    · replace H := H.2 c2
      refine x_if_eq_t (q223c0 7 rfl) (by decide) ?_
      refine x_aload_n (q223c0 18 rfl) rfl ?_
      refine x_ldc (q223c0 19 rfl) ?_
      refine x_cvi (q223c0 20 rfl) rfl oc0 rfl (Nat.le_of_ble_eq_true rfl) (am_lifti (Nat.le_of_ble_eq_true rfl) (e_At_finding (r1 := h 0 13) (rfl) ?_))
      obtain ⟨s16, H⟩ := H
      refine ⟨s16, ?_⟩
      exact x_ireti (q223c0 21 rfl) zb223 H
  · replace H := H.2 c1
    refine x_if_eq_t (q223c0 2 rfl) (by decide) ?_
    refine x_aload_n (q223c0 18 rfl) rfl ?_
    refine x_ldc (q223c0 19 rfl) ?_
    refine x_cvi (q223c0 20 rfl) rfl oc0 rfl (Nat.le_of_ble_eq_true rfl) (am_lifti (Nat.le_of_ble_eq_true rfl) (e_At_finding (r1 := h 0 13) (rfl) ?_))
    obtain ⟨s17, H⟩ := H
    refine ⟨s17, ?_⟩
    exact x_ireti (q223c0 21 rfl) zb223 H
theorem e_At_distance {h : am_H} {x1 : Int} {x2 : Int} {x3 : Int} {P : Int → am_H → Prop} (H : ((0 ≤ x1 ∧ x1 < h 1 0) → (((0 ≤ x2 ∧ x2 < h 1 0) → (((0 ≤ x3 ∧ x3 ≤ 999) → (∃ a5 h4, am_cd 5 203 [.inr (.inr 33), .inl x1, .inl x2, .inl x3] h (some (.inl a5)) h4 ∧ P a5 h4)) ∧ ((¬(0 ≤ x3 ∧ x3 ≤ 999)) → ((am_ok (h 0 13 + 1)) ∧ P (-100001) (am_up h 0 13 (h 0 13 + 1)))))) ∧ ((¬(0 ≤ x2 ∧ x2 < h 1 0)) → ((am_ok (h 0 13 + 1)) ∧ P (-100001) (am_up h 0 13 (h 0 13 + 1)))))) ∧ ((¬(0 ≤ x1 ∧ x1 < h 1 0)) → ((am_ok (h 0 13 + 1)) ∧ P (-100001) (am_up h 0 13 (h 0 13 + 1))))) : ∃ a h1, am_cd 6 224 [.inr (.inr 0), .inl x1, .inl x2, .inl x3] h (some (.inl a)) h1 ∧ P a h1 := by
  refine am_outi (d := 5) (ls := [some (.inr (.inr 0)), some (.inl x1), some (.inl x2), some (.inl x3)]) rfl ab224 ml224 (Nat.le_of_ble_eq_true rfl) np224 rfl ?_
  refine x_aload_n (q224c0 0 rfl) rfl ?_
  refine x_getr (q224c0 1 rfl) fd0_0 ?_
  refine x_iload_n (q224c0 2 rfl) rfl ?_
  refine x_cvi (q224c0 3 rfl) rfl oc1 rfl (Nat.le_of_ble_eq_true rfl) (am_lifti (Nat.le_of_ble_eq_true rfl) (e_Land_has (r1 := h 1 0) (rfl) ?_))
  refine ⟨fun c1 => ?_, fun c1 => ?_⟩
  · replace H := H.1 c1
    refine x_if_eq_f (q224c0 4 rfl) (by decide) ?_
    refine x_aload_n (q224c0 5 rfl) rfl ?_
    refine x_getr (q224c0 6 rfl) fd0_0 ?_
    refine x_iload_n (q224c0 7 rfl) rfl ?_
    refine x_cvi (q224c0 8 rfl) rfl oc1 rfl (Nat.le_of_ble_eq_true rfl) (am_lifti (Nat.le_of_ble_eq_true rfl) (e_Land_has (r1 := h 1 0) (rfl) ?_))
    refine ⟨fun c2 => ?_, fun c2 => ?_⟩
    · replace H := H.1 c2
      refine x_if_eq_f (q224c0 9 rfl) (by decide) ?_
      refine x_iload_n (q224c0 10 rfl) rfl ?_
      refine x_csi (q224c0 11 rfl) rfl rfl rfl (Nat.le_of_ble_eq_true rfl) (am_lifti (Nat.le_of_ble_eq_true rfl) (e_At_isDay   ?_))
      refine ⟨fun c3 => ?_, fun c3 => ?_⟩
      · replace H := H.1 c3
        refine x_if_ne_t (q224c0 12 rfl) (by decide) ?_
        refine x_aload_n (q224c0 17 rfl) rfl ?_
        refine x_getr (q224c0 18 rfl) fd0_6 ?_
        refine x_iload_n (q224c0 19 rfl) rfl ?_
        refine x_iload_n (q224c0 20 rfl) rfl ?_
        refine x_iload_n (q224c0 21 rfl) rfl ?_
        obtain ⟨a5, h4, w6, H⟩ := H
        refine x_cvi (q224c0 22 rfl) rfl oc33 rfl (Nat.le_of_ble_eq_true rfl) ⟨a5, h4, w6, ?_⟩
        exact x_ireti (q224c0 23 rfl) zb224 H
      · replace H := H.2 c3
        refine x_if_ne_f (q224c0 12 rfl) (by decide) ?_
        refine x_aload_n (q224c0 13 rfl) rfl ?_
        refine x_ldc (q224c0 14 rfl) ?_
        refine x_cvi (q224c0 15 rfl) rfl oc0 rfl (Nat.le_of_ble_eq_true rfl) (am_lifti (Nat.le_of_ble_eq_true rfl) (e_At_finding (r1 := h 0 13) (rfl) ?_))
        obtain ⟨s7, H⟩ := H
        refine ⟨s7, ?_⟩
        exact x_ireti (q224c0 16 rfl) zb224 H
    · replace H := H.2 c2
      refine x_if_eq_t (q224c0 9 rfl) (by decide) ?_
      refine x_aload_n (q224c0 13 rfl) rfl ?_
      refine x_ldc (q224c0 14 rfl) ?_
      refine x_cvi (q224c0 15 rfl) rfl oc0 rfl (Nat.le_of_ble_eq_true rfl) (am_lifti (Nat.le_of_ble_eq_true rfl) (e_At_finding (r1 := h 0 13) (rfl) ?_))
      obtain ⟨s8, H⟩ := H
      refine ⟨s8, ?_⟩
      exact x_ireti (q224c0 16 rfl) zb224 H
  · replace H := H.2 c1
    refine x_if_eq_t (q224c0 4 rfl) (by decide) ?_
    refine x_aload_n (q224c0 13 rfl) rfl ?_
    refine x_ldc (q224c0 14 rfl) ?_
    refine x_cvi (q224c0 15 rfl) rfl oc0 rfl (Nat.le_of_ble_eq_true rfl) (am_lifti (Nat.le_of_ble_eq_true rfl) (e_At_finding (r1 := h 0 13) (rfl) ?_))
    obtain ⟨s9, H⟩ := H
    refine ⟨s9, ?_⟩
    exact x_ireti (q224c0 16 rfl) zb224 H
theorem e_At_next {h : am_H} {x1 : Int} {P : Int → am_H → Prop} (H : ((0 ≤ x1 ∧ x1 < 6) → ((am_ok (am_shl 1 (h 1 0) - 1)) ∧ (∃ a4 h3, am_cd 5 189 [.inr (.inr 0), .inl x1] h (some (.inl a4)) h3 ∧ ((am_and (am_shl 1 (h 1 0) - 1) (am_xor a4 (-1)) ≠ 0 → (∃ a8 h7, am_cd 5 215 [.inr (.inr 0), .inl (am_and (am_shl 1 (h 1 0) - 1) (am_xor a4 (-1)))] h3 (some (.inl a8)) h7 ∧ P a8 h7)) ∧ (am_and (am_shl 1 (h 1 0) - 1) (am_xor a4 (-1)) = 0 → ((am_ok (h3 0 13 + 1)) ∧ P (-100006) (am_up h3 0 13 (h3 0 13 + 1)))))))) ∧ ((¬(0 ≤ x1 ∧ x1 < 6)) → ((am_ok (h 0 13 + 1)) ∧ P (-100001) (am_up h 0 13 (h 0 13 + 1))))) : ∃ a h1, am_cd 6 225 [.inr (.inr 0), .inl x1] h (some (.inl a)) h1 ∧ P a h1 := by
  refine am_outi (d := 5) (ls := [some (.inr (.inr 0)), some (.inl x1), none]) rfl ab225 ml225 (Nat.le_of_ble_eq_true rfl) np225 rfl ?_
  refine x_iload_n (q225c0 0 rfl) rfl ?_
  refine x_csi (q225c0 1 rfl) rfl rfl rfl (Nat.le_of_ble_eq_true rfl) (am_lifti (Nat.le_of_ble_eq_true rfl) (e_At_isThing   ?_))
  refine ⟨fun c1 => ?_, fun c1 => ?_⟩
  · replace H := H.1 c1
    refine x_if_ne_t (q225c0 2 rfl) (by decide) ?_
    refine x_aload_n (q225c0 7 rfl) rfl ?_
    refine x_getr (q225c0 8 rfl) fd0_0 ?_
    refine x_cvi (q225c0 9 rfl) rfl oc1 rfl (Nat.le_of_ble_eq_true rfl) (am_lifti (Nat.le_of_ble_eq_true rfl) (e_Land_all (r1 := h 1 0) (rfl) ?_))
    obtain ⟨s2, H⟩ := H
    refine ⟨s2, ?_⟩
    refine x_aload_n (q225c0 10 rfl) rfl ?_
    refine x_iload_n (q225c0 11 rfl) rfl ?_
    obtain ⟨a4, h3, w5, H⟩ := H
    refine x_cvi (q225c0 12 rfl) rfl oc0 rfl (Nat.le_of_ble_eq_true rfl) ⟨a4, h3, w5, ?_⟩
    refine x_iconst (q225c0 13 rfl) ?_
    refine x_ixor (q225c0 14 rfl) ?_
    refine x_iand (q225c0 15 rfl) ?_
    refine x_istore_n (q225c0 16 rfl) ⟨Nat.le_of_ble_eq_true rfl, trivial⟩ ?_
    refine x_iload_n (q225c0 17 rfl) rfl ?_
    refine x_if_ne (q225c0 18 rfl) (fun c6 => ?_) (fun c6 => ?_)
    · replace H := H.1 c6
      refine x_aload_n (q225c0 23 rfl) rfl ?_
      refine x_iload_n (q225c0 24 rfl) rfl ?_
      obtain ⟨a8, h7, w9, H⟩ := H
      refine x_cvi (q225c0 25 rfl) rfl oc0 rfl (Nat.le_of_ble_eq_true rfl) ⟨a8, h7, w9, ?_⟩
      exact x_ireti (q225c0 26 rfl) zb225 H
    · replace H := H.2 c6
      refine x_aload_n (q225c0 19 rfl) rfl ?_
      refine x_ldc (q225c0 20 rfl) ?_
      refine x_cvi (q225c0 21 rfl) rfl oc0 rfl (Nat.le_of_ble_eq_true rfl) (am_lifti (Nat.le_of_ble_eq_true rfl) (e_At_finding (r1 := h3 0 13) (rfl) ?_))
      obtain ⟨s10, H⟩ := H
      refine ⟨s10, ?_⟩
      refine x_goto (q225c0 22 rfl) ?_
      exact x_ireti (q225c0 26 rfl) zb225 H
  · replace H := H.2 c1
    refine x_if_ne_f (q225c0 2 rfl) (by decide) ?_
    refine x_aload_n (q225c0 3 rfl) rfl ?_
    refine x_ldc (q225c0 4 rfl) ?_
    refine x_cvi (q225c0 5 rfl) rfl oc0 rfl (Nat.le_of_ble_eq_true rfl) (am_lifti (Nat.le_of_ble_eq_true rfl) (e_At_finding (r1 := h 0 13) (rfl) ?_))
    obtain ⟨s11, H⟩ := H
    refine ⟨s11, ?_⟩
    exact x_ireti (q225c0 6 rfl) zb225 H
theorem e_At_foretold {h : am_H} {x1 : Int} {x2 : Int} {P : Int → am_H → Prop} (H : ((0 ≤ x1 ∧ x1 < h 1 0) → (((0 ≤ x2 ∧ x2 < 6) → (∃ h3, am_cd 5 216 [.inr (.inr 0), .inl x1, .inl x2] h none h3 ∧ am_x (am_cd 5) 226 (am_qi P) 0 39 [some (.inr (.inr 0)), none, none, some (.inl (-1)), some (.inl (-1)), some (.inl 0)] [] h3)) ∧ ((¬(0 ≤ x2 ∧ x2 < 6)) → ((am_ok (h 0 13 + 1)) ∧ P (-100001) (am_up h 0 13 (h 0 13 + 1)))))) ∧ ((¬(0 ≤ x1 ∧ x1 < h 1 0)) → ((am_ok (h 0 13 + 1)) ∧ P (-100001) (am_up h 0 13 (h 0 13 + 1))))) : ∃ a h1, am_cd 6 226 [.inr (.inr 0), .inl x1, .inl x2] h (some (.inl a)) h1 ∧ P a h1 := by
  refine am_outi (d := 5) (ls := [some (.inr (.inr 0)), some (.inl x1), some (.inl x2), none, none, none]) rfl ab226 ml226 (Nat.le_of_ble_eq_true rfl) np226 rfl ?_
  refine x_aload_n (q226c0 0 rfl) rfl ?_
  refine x_getr (q226c0 1 rfl) fd0_0 ?_
  refine x_iload_n (q226c0 2 rfl) rfl ?_
  refine x_cvi (q226c0 3 rfl) rfl oc1 rfl (Nat.le_of_ble_eq_true rfl) (am_lifti (Nat.le_of_ble_eq_true rfl) (e_Land_has (r1 := h 1 0) (rfl) ?_))
  refine ⟨fun c1 => ?_, fun c1 => ?_⟩
  · replace H := H.1 c1
    refine x_if_eq_f (q226c0 4 rfl) (by decide) ?_
    refine x_iload_n (q226c0 5 rfl) rfl ?_
    refine x_csi (q226c0 6 rfl) rfl rfl rfl (Nat.le_of_ble_eq_true rfl) (am_lifti (Nat.le_of_ble_eq_true rfl) (e_At_isThing   ?_))
    refine ⟨fun c2 => ?_, fun c2 => ?_⟩
    · replace H := H.1 c2
      refine x_if_ne_t (q226c0 7 rfl) (by decide) ?_
      refine x_aload_n (q226c0 12 rfl) rfl ?_
      refine x_iload_n (q226c0 13 rfl) rfl ?_
      refine x_iload_n (q226c0 14 rfl) rfl ?_
      obtain ⟨h3, w4, H⟩ := H
      refine x_cvv (q226c0 15 rfl) rfl oc0 rfl (Nat.le_of_ble_eq_true rfl) ⟨h3, w4, ?_⟩
      refine x_iconst (q226c0 16 rfl) ?_
      refine x_istore_n (q226c0 17 rfl) ⟨Nat.le_of_ble_eq_true rfl, trivial⟩ ?_
      refine x_iconst (q226c0 18 rfl) ?_
      refine x_istore (q226c0 19 rfl) ⟨Nat.le_of_ble_eq_true rfl, trivial⟩ ?_
      refine x_iconst (q226c0 20 rfl) ?_
      refine x_istore (q226c0 21 rfl) ⟨Nat.le_of_ble_eq_true rfl, trivial⟩ ?_
      exact am_x_weak (ls' := [some (.inr (.inr 0)), some (.inl x1), some (.inl x2), some (.inl (-1)), some (.inl (-1)), some (.inl 0)]) (lle_c (lle_d trivial (lle_d trivial (lle_c (lle_c (lle_c (lle_nil))))))) H
    · replace H := H.2 c2
      refine x_if_ne_f (q226c0 7 rfl) (by decide) ?_
      refine x_aload_n (q226c0 8 rfl) rfl ?_
      refine x_ldc (q226c0 9 rfl) ?_
      refine x_cvi (q226c0 10 rfl) rfl oc0 rfl (Nat.le_of_ble_eq_true rfl) (am_lifti (Nat.le_of_ble_eq_true rfl) (e_At_finding (r1 := h 0 13) (rfl) ?_))
      obtain ⟨s5, H⟩ := H
      refine ⟨s5, ?_⟩
      exact x_ireti (q226c0 11 rfl) zb226 H
  · replace H := H.2 c1
    refine x_if_eq_t (q226c0 4 rfl) (by decide) ?_
    refine x_aload_n (q226c0 8 rfl) rfl ?_
    refine x_ldc (q226c0 9 rfl) ?_
    refine x_cvi (q226c0 10 rfl) rfl oc0 rfl (Nat.le_of_ble_eq_true rfl) (am_lifti (Nat.le_of_ble_eq_true rfl) (e_At_finding (r1 := h 0 13) (rfl) ?_))
    obtain ⟨s6, H⟩ := H
    refine ⟨s6, ?_⟩
    exact x_ireti (q226c0 11 rfl) zb226 H
theorem g_At_foretold_39 {h : am_H} {x3 : Int} {x4 : Int} {x5 : Int} {P : Int → am_H → Prop} (H : (30 ≤ x5 → ((x3 ≠ (-1) → P x3 h) ∧ (x3 = (-1) → ((am_ok (h 0 13 + 1)) ∧ P (-100006) (am_up h 0 13 (h 0 13 + 1)))))) ∧ (x5 < 30 → ((0 ≤ x5 ∧ x5 < 30) ∧ ((h 55 x5 ≤ x4 → ((am_ok (x5 + 1)) ∧ am_x (am_cd 5) 226 (am_qi P) 0 39 [some (.inr (.inr 0)), none, none, some (.inl x3), some (.inl x4), some (.inl (x5 + 1))] [] h)) ∧ (x4 < h 55 x5 → ((am_ok (x5 + 1)) ∧ am_x (am_cd 5) 226 (am_qi P) 0 39 [some (.inr (.inr 0)), none, none, some (.inl x5), some (.inl (h 55 x5)), some (.inl (x5 + 1))] [] h)))))) : am_x (am_cd 5) 226 (am_qi P) 0 39 [some (.inr (.inr 0)), none, none, some (.inl x3), some (.inl x4), some (.inl x5)] [] h := by
  refine x_iload (q226c0 22 rfl) rfl ?_
  refine x_aload_n (q226c0 23 rfl) rfl ?_
  refine x_getr (q226c0 24 rfl) fd0_11 ?_
  refine x_alen (q226c0 25 rfl) (al55 _) rfl (z := 30) ?_
  refine x_icmp_ge (q226c0 26 rfl) (fun c1 => ?_) (fun c1 => ?_)
  · replace H := H.1 c1
    refine x_iload_n (q226c0 42 rfl) rfl ?_
    refine x_iconst (q226c0 43 rfl) ?_
    refine x_icmp_ne (q226c0 44 rfl) (fun c2 => ?_) (fun c2 => ?_)
    · replace H := H.1 c2
      refine x_iload_n (q226c0 49 rfl) rfl ?_
      exact x_ireti (q226c0 50 rfl) zb226 H
    · replace H := H.2 c2
      refine x_aload_n (q226c0 45 rfl) rfl ?_
      refine x_ldc (q226c0 46 rfl) ?_
      refine x_cvi (q226c0 47 rfl) rfl oc0 rfl (Nat.le_of_ble_eq_true rfl) (am_lifti (Nat.le_of_ble_eq_true rfl) (e_At_finding (r1 := h 0 13) (rfl) ?_))
      obtain ⟨s3, H⟩ := H
      refine ⟨s3, ?_⟩
      refine x_goto (q226c0 48 rfl) ?_
      exact x_ireti (q226c0 50 rfl) zb226 H
  · replace H := H.2 c1
    obtain ⟨s4, H⟩ := H
    refine x_aload_n (q226c0 27 rfl) rfl ?_
    refine x_getr (q226c0 28 rfl) fd0_11 ?_
    refine x_iload (q226c0 29 rfl) rfl ?_
    refine x_iaload (q226c0 30 rfl) (al55 _) rfl (ag_l rfl rfl (rfl)) s4 ?_
    refine x_iload (q226c0 31 rfl) rfl ?_
    refine x_icmp_le (q226c0 32 rfl) (fun c5 => ?_) (fun c5 => ?_)
    · replace H := H.1 c5
      obtain ⟨s6, H⟩ := H
      refine x_iinc (q226c0 40 rfl) rfl ⟨Nat.le_of_ble_eq_true rfl, trivial⟩ s6 ?_
      refine x_goto (q226c0 41 rfl) ?_
      exact H
    · replace H := H.2 c5
      obtain ⟨s7, H⟩ := H
      refine x_aload_n (q226c0 33 rfl) rfl ?_
      refine x_getr (q226c0 34 rfl) fd0_11 ?_
      refine x_iload (q226c0 35 rfl) rfl ?_
      refine x_iaload (q226c0 36 rfl) (al55 _) rfl (ag_l rfl rfl (rfl)) s4 ?_
      refine x_istore (q226c0 37 rfl) ⟨Nat.le_of_ble_eq_true rfl, trivial⟩ ?_
      refine x_iload (q226c0 38 rfl) rfl ?_
      refine x_istore_n (q226c0 39 rfl) ⟨Nat.le_of_ble_eq_true rfl, trivial⟩ ?_
      refine x_iinc (q226c0 40 rfl) rfl ⟨Nat.le_of_ble_eq_true rfl, trivial⟩ s7 ?_
      refine x_goto (q226c0 41 rfl) ?_
      exact H
theorem e_At_seeds {h : am_H} {x1 : Int} {P : Int → am_H → Prop} (H : (x1 < 0 → ((am_ok (h 0 13 + 1)) ∧ P (-100001) (am_up h 0 13 (h 0 13 + 1)))) ∧ (0 ≤ x1 → ((x1 ≤ 30 → (∃ a5 h4, am_cd 5 206 [.inr (.inr 44), .inl x1] h (some (.inl a5)) h4 ∧ ((a5 ≠ (-1) → P a5 h4) ∧ (a5 = (-1) → ((am_ok (h4 0 13 + 1)) ∧ P (-100006) (am_up h4 0 13 (h4 0 13 + 1))))))) ∧ (30 < x1 → ((am_ok (h 0 13 + 1)) ∧ P (-100001) (am_up h 0 13 (h 0 13 + 1))))))) : ∃ a h1, am_cd 6 227 [.inr (.inr 0), .inl x1] h (some (.inl a)) h1 ∧ P a h1 := by
  refine am_outi (d := 5) (ls := [some (.inr (.inr 0)), some (.inl x1), none]) rfl ab227 ml227 (Nat.le_of_ble_eq_true rfl) np227 rfl ?_
  refine x_iload_n (q227c0 0 rfl) rfl ?_
  refine x_if_lt (q227c0 1 rfl) (fun c1 => ?_) (fun c1 => ?_)
  · replace H := H.1 c1
    refine x_aload_n (q227c0 5 rfl) rfl ?_
    refine x_ldc (q227c0 6 rfl) ?_
    refine x_cvi (q227c0 7 rfl) rfl oc0 rfl (Nat.le_of_ble_eq_true rfl) (am_lifti (Nat.le_of_ble_eq_true rfl) (e_At_finding (r1 := h 0 13) (rfl) ?_))
    obtain ⟨s2, H⟩ := H
    refine ⟨s2, ?_⟩
    exact x_ireti (q227c0 8 rfl) zb227 H
  · replace H := H.2 c1
    refine x_iload_n (q227c0 2 rfl) rfl ?_
    refine x_bipush (q227c0 3 rfl) ?_
    refine x_icmp_le (q227c0 4 rfl) (fun c3 => ?_) (fun c3 => ?_)
    · replace H := H.1 c3
      refine x_aload_n (q227c0 9 rfl) rfl ?_
      refine x_getr (q227c0 10 rfl) fd0_8 ?_
      refine x_iload_n (q227c0 11 rfl) rfl ?_
      obtain ⟨a5, h4, w6, H⟩ := H
      refine x_cvi (q227c0 12 rfl) rfl oc44 rfl (Nat.le_of_ble_eq_true rfl) ⟨a5, h4, w6, ?_⟩
      refine x_istore_n (q227c0 13 rfl) ⟨Nat.le_of_ble_eq_true rfl, trivial⟩ ?_
      refine x_iload_n (q227c0 14 rfl) rfl ?_
      refine x_iconst (q227c0 15 rfl) ?_
      refine x_icmp_ne (q227c0 16 rfl) (fun c7 => ?_) (fun c7 => ?_)
      · replace H := H.1 c7
        refine x_iload_n (q227c0 21 rfl) rfl ?_
        exact x_ireti (q227c0 22 rfl) zb227 H
      · replace H := H.2 c7
        refine x_aload_n (q227c0 17 rfl) rfl ?_
        refine x_ldc (q227c0 18 rfl) ?_
        refine x_cvi (q227c0 19 rfl) rfl oc0 rfl (Nat.le_of_ble_eq_true rfl) (am_lifti (Nat.le_of_ble_eq_true rfl) (e_At_finding (r1 := h4 0 13) (rfl) ?_))
        obtain ⟨s8, H⟩ := H
        refine ⟨s8, ?_⟩
        refine x_goto (q227c0 20 rfl) ?_
        exact x_ireti (q227c0 22 rfl) zb227 H
    · replace H := H.2 c3
      refine x_aload_n (q227c0 5 rfl) rfl ?_
      refine x_ldc (q227c0 6 rfl) ?_
      refine x_cvi (q227c0 7 rfl) rfl oc0 rfl (Nat.le_of_ble_eq_true rfl) (am_lifti (Nat.le_of_ble_eq_true rfl) (e_At_finding (r1 := h 0 13) (rfl) ?_))
      obtain ⟨s9, H⟩ := H
      refine ⟨s9, ?_⟩
      exact x_ireti (q227c0 8 rfl) zb227 H
theorem e_At_dialects {h : am_H} {x1 : Int} {x2 : Int} {P : Int → am_H → Prop} (H : (x1 < 1 → ((am_ok (h 0 13 + 1)) ∧ P (-100001) (am_up h 0 13 (h 0 13 + 1)))) ∧ (1 ≤ x1 → ((4 < x1 → ((am_ok (h 0 13 + 1)) ∧ P (-100001) (am_up h 0 13 (h 0 13 + 1)))) ∧ (x1 ≤ 4 → ((x2 < (-1) → ((am_ok (h 0 13 + 1)) ∧ P (-100001) (am_up h 0 13 (h 0 13 + 1)))) ∧ ((-1) ≤ x2 → ((x2 < h 1 0 → ((h 1 0 ≠ 0 → ((h 1 0 ≤ 10 → (∃ h10, am_cd 16 220 [.inr (.inr 33), .inl x1, .inl (h 0 12)] h none h10 ∧ ((0 ≤ x2 → ((0 ≤ x2 ∧ x2 < 10) ∧ P (h10 38 x2) h10)) ∧ (x2 < 0 → P (h10 33 8) h10)))) ∧ (10 < h 1 0 → ((am_ok (h 0 13 + 1)) ∧ P (-100003) (am_up h 0 13 (h 0 13 + 1)))))) ∧ (h 1 0 = 0 → ((am_ok (h 0 13 + 1)) ∧ P (-100006) (am_up h 0 13 (h 0 13 + 1)))))) ∧ (h 1 0 ≤ x2 → ((am_ok (h 0 13 + 1)) ∧ P (-100001) (am_up h 0 13 (h 0 13 + 1))))))))))) : ∃ a h1, am_cd 17 228 [.inr (.inr 0), .inl x1, .inl x2] h (some (.inl a)) h1 ∧ P a h1 := by
  refine am_outi (d := 16) (ls := [some (.inr (.inr 0)), some (.inl x1), some (.inl x2)]) rfl ab228 ml228 (Nat.le_of_ble_eq_true rfl) np228 rfl ?_
  refine x_iload_n (q228c0 0 rfl) rfl ?_
  refine x_iconst (q228c0 1 rfl) ?_
  refine x_icmp_lt (q228c0 2 rfl) (fun c1 => ?_) (fun c1 => ?_)
  · replace H := H.1 c1
    refine x_aload_n (q228c0 14 rfl) rfl ?_
    refine x_ldc (q228c0 15 rfl) ?_
    refine x_cvi (q228c0 16 rfl) rfl oc0 rfl (Nat.le_of_ble_eq_true rfl) (am_lifti (Nat.le_of_ble_eq_true rfl) (e_At_finding (r1 := h 0 13) (rfl) ?_))
    obtain ⟨s2, H⟩ := H
    refine ⟨s2, ?_⟩
    exact x_ireti (q228c0 17 rfl) zb228 H
  · replace H := H.2 c1
    refine x_iload_n (q228c0 3 rfl) rfl ?_
    refine x_iconst (q228c0 4 rfl) ?_
    refine x_icmp_gt (q228c0 5 rfl) (fun c3 => ?_) (fun c3 => ?_)
    · replace H := H.1 c3
      refine x_aload_n (q228c0 14 rfl) rfl ?_
      refine x_ldc (q228c0 15 rfl) ?_
      refine x_cvi (q228c0 16 rfl) rfl oc0 rfl (Nat.le_of_ble_eq_true rfl) (am_lifti (Nat.le_of_ble_eq_true rfl) (e_At_finding (r1 := h 0 13) (rfl) ?_))
      obtain ⟨s4, H⟩ := H
      refine ⟨s4, ?_⟩
      exact x_ireti (q228c0 17 rfl) zb228 H
    · replace H := H.2 c3
      refine x_iload_n (q228c0 6 rfl) rfl ?_
      refine x_iconst (q228c0 7 rfl) ?_
      refine x_icmp_lt (q228c0 8 rfl) (fun c5 => ?_) (fun c5 => ?_)
      · replace H := H.1 c5
        refine x_aload_n (q228c0 14 rfl) rfl ?_
        refine x_ldc (q228c0 15 rfl) ?_
        refine x_cvi (q228c0 16 rfl) rfl oc0 rfl (Nat.le_of_ble_eq_true rfl) (am_lifti (Nat.le_of_ble_eq_true rfl) (e_At_finding (r1 := h 0 13) (rfl) ?_))
        obtain ⟨s6, H⟩ := H
        refine ⟨s6, ?_⟩
        exact x_ireti (q228c0 17 rfl) zb228 H
      · replace H := H.2 c5
        refine x_iload_n (q228c0 9 rfl) rfl ?_
        refine x_aload_n (q228c0 10 rfl) rfl ?_
        refine x_getr (q228c0 11 rfl) fd0_0 ?_
        refine x_cvi (q228c0 12 rfl) rfl oc1 rfl (Nat.le_of_ble_eq_true rfl) (am_lifti (Nat.le_of_ble_eq_true rfl) (e_Land_size (r1 := h 1 0) (rfl) ?_))
        refine x_icmp_lt (q228c0 13 rfl) (fun c7 => ?_) (fun c7 => ?_)
        · replace H := H.1 c7
          refine x_aload_n (q228c0 18 rfl) rfl ?_
          refine x_getr (q228c0 19 rfl) fd0_0 ?_
          refine x_cvi (q228c0 20 rfl) rfl oc1 rfl (Nat.le_of_ble_eq_true rfl) (am_lifti (Nat.le_of_ble_eq_true rfl) (e_Land_size (r1 := h 1 0) (rfl) ?_))
          refine x_if_ne (q228c0 21 rfl) (fun c8 => ?_) (fun c8 => ?_)
          · replace H := H.1 c8
            refine x_aload_n (q228c0 26 rfl) rfl ?_
            refine x_getr (q228c0 27 rfl) fd0_0 ?_
            refine x_cvi (q228c0 28 rfl) rfl oc1 rfl (Nat.le_of_ble_eq_true rfl) (am_lifti (Nat.le_of_ble_eq_true rfl) (e_Land_size (r1 := h 1 0) (rfl) ?_))
            refine x_bipush (q228c0 29 rfl) ?_
            refine x_icmp_le (q228c0 30 rfl) (fun c9 => ?_) (fun c9 => ?_)
            · replace H := H.1 c9
              refine x_aload_n (q228c0 35 rfl) rfl ?_
              refine x_getr (q228c0 36 rfl) fd0_6 ?_
              refine x_iload_n (q228c0 37 rfl) rfl ?_
              refine x_aload_n (q228c0 38 rfl) rfl ?_
              refine x_getf (q228c0 39 rfl) fd0_12 (rfl) ?_
              obtain ⟨h10, w11, H⟩ := H
              refine x_cvv (q228c0 40 rfl) rfl oc33 rfl (Nat.le_of_ble_eq_true rfl) ⟨h10, w11, ?_⟩
              refine x_iload_n (q228c0 41 rfl) rfl ?_
              refine x_if_ge (q228c0 42 rfl) (fun c12 => ?_) (fun c12 => ?_)
              · replace H := H.1 c12
                refine x_aload_n (q228c0 47 rfl) rfl ?_
                refine x_getr (q228c0 48 rfl) fd0_6 ?_
                refine x_iload_n (q228c0 49 rfl) rfl ?_
                refine x_cvi (q228c0 50 rfl) rfl oc33 rfl (Nat.le_of_ble_eq_true rfl) (am_lifti (Nat.le_of_ble_eq_true rfl) (e_Dialects_dialectOf (r1 := h10 38 x2) (rfl) ?_))
                obtain ⟨s13, H⟩ := H
                refine ⟨s13, ?_⟩
                exact x_ireti (q228c0 51 rfl) zb228 H
              · replace H := H.2 c12
                refine x_aload_n (q228c0 43 rfl) rfl ?_
                refine x_getr (q228c0 44 rfl) fd0_6 ?_
                refine x_cvi (q228c0 45 rfl) rfl oc33 rfl (Nat.le_of_ble_eq_true rfl) (am_lifti (Nat.le_of_ble_eq_true rfl) (e_Dialects_leastSum (r1 := h10 33 8) (rfl) ?_))
                refine x_goto (q228c0 46 rfl) ?_
                exact x_ireti (q228c0 51 rfl) zb228 H
            · replace H := H.2 c9
              refine x_aload_n (q228c0 31 rfl) rfl ?_
              refine x_ldc (q228c0 32 rfl) ?_
              refine x_cvi (q228c0 33 rfl) rfl oc0 rfl (Nat.le_of_ble_eq_true rfl) (am_lifti (Nat.le_of_ble_eq_true rfl) (e_At_finding (r1 := h 0 13) (rfl) ?_))
              obtain ⟨s14, H⟩ := H
              refine ⟨s14, ?_⟩
              exact x_ireti (q228c0 34 rfl) zb228 H
          · replace H := H.2 c8
            refine x_aload_n (q228c0 22 rfl) rfl ?_
            refine x_ldc (q228c0 23 rfl) ?_
            refine x_cvi (q228c0 24 rfl) rfl oc0 rfl (Nat.le_of_ble_eq_true rfl) (am_lifti (Nat.le_of_ble_eq_true rfl) (e_At_finding (r1 := h 0 13) (rfl) ?_))
            obtain ⟨s15, H⟩ := H
            refine ⟨s15, ?_⟩
            exact x_ireti (q228c0 25 rfl) zb228 H
        · replace H := H.2 c7
          refine x_aload_n (q228c0 14 rfl) rfl ?_
          refine x_ldc (q228c0 15 rfl) ?_
          refine x_cvi (q228c0 16 rfl) rfl oc0 rfl (Nat.le_of_ble_eq_true rfl) (am_lifti (Nat.le_of_ble_eq_true rfl) (e_At_finding (r1 := h 0 13) (rfl) ?_))
          obtain ⟨s16, H⟩ := H
          refine ⟨s16, ?_⟩
          exact x_ireti (q228c0 17 rfl) zb228 H
theorem e_At_proves {h : am_H} {x1 : Int} {x2 : Int} {P : Int → am_H → Prop} (H : ((0 ≤ x1 ∧ x1 < 4) → ((h 48 x1 = 0 → ((am_ok (h 0 13 + 1)) ∧ P (-100002) (am_up h 0 13 (h 0 13 + 1)))) ∧ (h 48 x1 ≠ 0 → ((h 1 0 ≤ 10 → (∃ a6 h5, am_cd 6 221 [.inr (.inr 33), .inr (.inr 47), .inl x1, .inl x2, .inl (h 0 12)] h (some (.inl a6)) h5 ∧ P a6 h5)) ∧ (10 < h 1 0 → ((am_ok (h 0 13 + 1)) ∧ P (-100003) (am_up h 0 13 (h 0 13 + 1)))))))) ∧ ((¬(0 ≤ x1 ∧ x1 < 4)) → ((am_ok (h 0 13 + 1)) ∧ P (-100001) (am_up h 0 13 (h 0 13 + 1))))) : ∃ a h1, am_cd 7 229 [.inr (.inr 0), .inl x1, .inl x2] h (some (.inl a)) h1 ∧ P a h1 := by
  refine am_outi (d := 6) (ls := [some (.inr (.inr 0)), some (.inl x1), some (.inl x2)]) rfl ab229 ml229 (Nat.le_of_ble_eq_true rfl) np229 rfl ?_
  refine x_iload_n (q229c0 0 rfl) rfl ?_
  refine x_csi (q229c0 1 rfl) rfl rfl rfl (Nat.le_of_ble_eq_true rfl) (am_lifti (Nat.le_of_ble_eq_true rfl) (e_Sheets_isSheet   ?_))
  refine ⟨fun c1 => ?_, fun c1 => ?_⟩
  · replace H := H.1 c1
    refine x_if_ne_t (q229c0 2 rfl) (by decide) ?_
    refine x_aload_n (q229c0 7 rfl) rfl ?_
    refine x_getr (q229c0 8 rfl) fd0_9 ?_
    refine x_iload_n (q229c0 9 rfl) rfl ?_
    refine x_cvi (q229c0 10 rfl) rfl oc47 rfl (Nat.le_of_ble_eq_true rfl) (am_lifti (Nat.le_of_ble_eq_true rfl) (e_Sheets_isMissing (r1 := h 48 x1) (rfl) ?_))
    refine ⟨c1, ?_⟩
    refine ⟨fun c2 => ?_, fun c2 => ?_⟩
    · replace H := H.1 c2
      refine x_if_eq_f (q229c0 11 rfl) (by decide) ?_
      refine x_aload_n (q229c0 12 rfl) rfl ?_
      refine x_ldc (q229c0 13 rfl) ?_
      refine x_cvi (q229c0 14 rfl) rfl oc0 rfl (Nat.le_of_ble_eq_true rfl) (am_lifti (Nat.le_of_ble_eq_true rfl) (e_At_finding (r1 := h 0 13) (rfl) ?_))
      obtain ⟨s3, H⟩ := H
      refine ⟨s3, ?_⟩
      exact x_ireti (q229c0 15 rfl) zb229 H
    · replace H := H.2 c2
      refine x_if_eq_t (q229c0 11 rfl) (by decide) ?_
      refine x_aload_n (q229c0 16 rfl) rfl ?_
      refine x_getr (q229c0 17 rfl) fd0_0 ?_
      refine x_cvi (q229c0 18 rfl) rfl oc1 rfl (Nat.le_of_ble_eq_true rfl) (am_lifti (Nat.le_of_ble_eq_true rfl) (e_Land_size (r1 := h 1 0) (rfl) ?_))
      refine x_bipush (q229c0 19 rfl) ?_
      refine x_icmp_le (q229c0 20 rfl) (fun c4 => ?_) (fun c4 => ?_)
      · replace H := H.1 c4
        refine x_aload_n (q229c0 25 rfl) rfl ?_
        refine x_getr (q229c0 26 rfl) fd0_6 ?_
        refine x_aload_n (q229c0 27 rfl) rfl ?_
        refine x_getr (q229c0 28 rfl) fd0_9 ?_
        refine x_iload_n (q229c0 29 rfl) rfl ?_
        refine x_iload_n (q229c0 30 rfl) rfl ?_
        refine x_aload_n (q229c0 31 rfl) rfl ?_
        refine x_getf (q229c0 32 rfl) fd0_12 (rfl) ?_
        obtain ⟨a6, h5, w7, H⟩ := H
        refine x_cvi (q229c0 33 rfl) rfl oc33 rfl (Nat.le_of_ble_eq_true rfl) ⟨a6, h5, w7, ?_⟩
        exact x_ireti (q229c0 34 rfl) zb229 H
      · replace H := H.2 c4
        refine x_aload_n (q229c0 21 rfl) rfl ?_
        refine x_ldc (q229c0 22 rfl) ?_
        refine x_cvi (q229c0 23 rfl) rfl oc0 rfl (Nat.le_of_ble_eq_true rfl) (am_lifti (Nat.le_of_ble_eq_true rfl) (e_At_finding (r1 := h 0 13) (rfl) ?_))
        obtain ⟨s8, H⟩ := H
        refine ⟨s8, ?_⟩
        exact x_ireti (q229c0 24 rfl) zb229 H
  · replace H := H.2 c1
    refine x_if_ne_f (q229c0 2 rfl) (by decide) ?_
    refine x_aload_n (q229c0 3 rfl) rfl ?_
    refine x_ldc (q229c0 4 rfl) ?_
    refine x_cvi (q229c0 5 rfl) rfl oc0 rfl (Nat.le_of_ble_eq_true rfl) (am_lifti (Nat.le_of_ble_eq_true rfl) (e_At_finding (r1 := h 0 13) (rfl) ?_))
    obtain ⟨s9, H⟩ := H
    refine ⟨s9, ?_⟩
    exact x_ireti (q229c0 6 rfl) zb229 H
theorem e_At_round {h : am_H} {x1 : Int} {x2 : Int} {x3 : Int} {P : Int → am_H → Prop} (H : ((0 ≤ x1 ∧ x1 < h 1 0) → ((am_ok (am_shl 1 (h 1 0) - 1)) ∧ ((am_and x2 (am_xor (am_shl 1 (h 1 0) - 1) (-1)) = 0 → ((am_and x2 (am_shl 1 x1) ≠ 0 → ((am_ok (h 0 13 + 1)) ∧ P (-100001) (am_up h 0 13 (h 0 13 + 1)))) ∧ (am_and x2 (am_shl 1 x1) = 0 → (((-1) ≤ x3 → (∃ a8 h7, am_cd 6 86 [.inl x2] h (some (.inl a8)) h7 ∧ ((a8 ≤ 7 → (∃ a12 h11, am_cd 6 205 [.inr (.inr 1), .inl x1, .inl x2] h7 (some (.inl a12)) h11 ∧ ((a12 ≠ 0 → (∃ a16 h15, am_cd 6 86 [.inl x2] h11 (some (.inl a16)) h15 ∧ ((x3 < a16 → (∃ h19, am_cd 6 222 [.inr (.inr 39), .inl x1, .inl x2] h15 none h19 ∧ ((0 ≤ x3 → ((0 ≤ x3 ∧ x3 < 7) ∧ P (h19 43 x3) h19)) ∧ (x3 < 0 → P (h19 39 6) h19)))) ∧ (a16 ≤ x3 → ((am_ok (h15 0 13 + 1)) ∧ P (-100006) (am_up h15 0 13 (h15 0 13 + 1))))))) ∧ (a12 = 0 → ((am_ok (h11 0 13 + 1)) ∧ P (-100008) (am_up h11 0 13 (h11 0 13 + 1))))))) ∧ (7 < a8 → ((am_ok (h7 0 13 + 1)) ∧ P (-100003) (am_up h7 0 13 (h7 0 13 + 1))))))) ∧ (x3 < (-1) → ((am_ok (h 0 13 + 1)) ∧ P (-100001) (am_up h 0 13 (h 0 13 + 1)))))))) ∧ (am_and x2 (am_xor (am_shl 1 (h 1 0) - 1) (-1)) ≠ 0 → ((am_ok (h 0 13 + 1)) ∧ P (-100001) (am_up h 0 13 (h 0 13 + 1))))))) ∧ ((¬(0 ≤ x1 ∧ x1 < h 1 0)) → ((am_ok (h 0 13 + 1)) ∧ P (-100001) (am_up h 0 13 (h 0 13 + 1))))) : ∃ a h1, am_cd 7 230 [.inr (.inr 0), .inl x1, .inl x2, .inl x3] h (some (.inl a)) h1 ∧ P a h1 := by
  refine am_outi (d := 6) (ls := [some (.inr (.inr 0)), some (.inl x1), some (.inl x2), some (.inl x3)]) rfl ab230 ml230 (Nat.le_of_ble_eq_true rfl) np230 rfl ?_
  refine x_aload_n (q230c0 0 rfl) rfl ?_
  refine x_getr (q230c0 1 rfl) fd0_0 ?_
  refine x_iload_n (q230c0 2 rfl) rfl ?_
  refine x_cvi (q230c0 3 rfl) rfl oc1 rfl (Nat.le_of_ble_eq_true rfl) (am_lifti (Nat.le_of_ble_eq_true rfl) (e_Land_has (r1 := h 1 0) (rfl) ?_))
  refine ⟨fun c1 => ?_, fun c1 => ?_⟩
  · replace H := H.1 c1
    refine x_if_eq_f (q230c0 4 rfl) (by decide) ?_
    refine x_aload_n (q230c0 5 rfl) rfl ?_
    refine x_getr (q230c0 6 rfl) fd0_0 ?_
    refine x_iload_n (q230c0 7 rfl) rfl ?_
    refine x_cvi (q230c0 8 rfl) rfl oc1 rfl (Nat.le_of_ble_eq_true rfl) (am_lifti (Nat.le_of_ble_eq_true rfl) (e_Land_hasAll (r1 := h 1 0) (rfl) ?_))
    obtain ⟨s2, H⟩ := H
    refine ⟨s2, ?_⟩
    refine ⟨fun c3 => ?_, fun c3 => ?_⟩
    · replace H := H.1 c3
      refine x_if_eq_f (q230c0 9 rfl) (by decide) ?_
      refine x_iload_n (q230c0 10 rfl) rfl ?_
      refine x_iconst (q230c0 11 rfl) ?_
      refine x_iload_n (q230c0 12 rfl) rfl ?_
      refine x_ishl (q230c0 13 rfl) ?_
      refine x_iand (q230c0 14 rfl) ?_
      refine x_if_ne (q230c0 15 rfl) (fun c4 => ?_) (fun c4 => ?_)
      · replace H := H.1 c4
        refine x_aload_n (q230c0 19 rfl) rfl ?_
        refine x_ldc (q230c0 20 rfl) ?_
        refine x_cvi (q230c0 21 rfl) rfl oc0 rfl (Nat.le_of_ble_eq_true rfl) (am_lifti (Nat.le_of_ble_eq_true rfl) (e_At_finding (r1 := h 0 13) (rfl) ?_))
        obtain ⟨s5, H⟩ := H
        refine ⟨s5, ?_⟩
        exact x_ireti (q230c0 22 rfl) zb230 H
      · replace H := H.2 c4
        refine x_iload_n (q230c0 16 rfl) rfl ?_
        refine x_iconst (q230c0 17 rfl) ?_
        refine x_icmp_ge (q230c0 18 rfl) (fun c6 => ?_) (fun c6 => ?_)
        · replace H := H.1 c6
          refine x_iload_n (q230c0 23 rfl) rfl ?_
          obtain ⟨a8, h7, w9, H⟩ := H
          refine x_csi (q230c0 24 rfl) rfl rfl rfl (Nat.le_of_ble_eq_true rfl) ⟨a8, h7, w9, ?_⟩
          refine x_bipush (q230c0 25 rfl) ?_
          refine x_icmp_le (q230c0 26 rfl) (fun c10 => ?_) (fun c10 => ?_)
          · replace H := H.1 c10
            refine x_aload_n (q230c0 31 rfl) rfl ?_
            refine x_getr (q230c0 32 rfl) fd0_0 ?_
            refine x_iload_n (q230c0 33 rfl) rfl ?_
            refine x_iload_n (q230c0 34 rfl) rfl ?_
            obtain ⟨a12, h11, w13, H⟩ := H
            refine x_cvi (q230c0 35 rfl) rfl oc1 rfl (Nat.le_of_ble_eq_true rfl) ⟨a12, h11, w13, ?_⟩
            refine x_if_ne (q230c0 36 rfl) (fun c14 => ?_) (fun c14 => ?_)
            · replace H := H.1 c14
              refine x_iload_n (q230c0 41 rfl) rfl ?_
              refine x_iload_n (q230c0 42 rfl) rfl ?_
              obtain ⟨a16, h15, w17, H⟩ := H
              refine x_csi (q230c0 43 rfl) rfl rfl rfl (Nat.le_of_ble_eq_true rfl) ⟨a16, h15, w17, ?_⟩
              refine x_icmp_lt (q230c0 44 rfl) (fun c18 => ?_) (fun c18 => ?_)
              · replace H := H.1 c18
                refine x_aload_n (q230c0 49 rfl) rfl ?_
                refine x_getr (q230c0 50 rfl) fd0_7 ?_
                refine x_iload_n (q230c0 51 rfl) rfl ?_
                refine x_iload_n (q230c0 52 rfl) rfl ?_
                obtain ⟨h19, w20, H⟩ := H
                refine x_cvv (q230c0 53 rfl) rfl oc39 rfl (Nat.le_of_ble_eq_true rfl) ⟨h19, w20, ?_⟩
                refine x_iload_n (q230c0 54 rfl) rfl ?_
                refine x_if_ge (q230c0 55 rfl) (fun c21 => ?_) (fun c21 => ?_)
                · replace H := H.1 c21
                  refine x_aload_n (q230c1 0 rfl) rfl ?_
                  refine x_getr (q230c1 1 rfl) fd0_7 ?_
                  refine x_iload_n (q230c1 2 rfl) rfl ?_
                  refine x_cvi (q230c1 3 rfl) rfl oc39 rfl (Nat.le_of_ble_eq_true rfl) (am_lifti (Nat.le_of_ble_eq_true rfl) (e_Tour_stopAt (r1 := h19 43 x3) (rfl) ?_))
                  obtain ⟨s22, H⟩ := H
                  refine ⟨s22, ?_⟩
                  exact x_ireti (q230c1 4 rfl) zb230 H
                · replace H := H.2 c21
                  refine x_aload_n (q230c0 56 rfl) rfl ?_
                  refine x_getr (q230c0 57 rfl) fd0_7 ?_
                  refine x_cvi (q230c0 58 rfl) rfl oc39 rfl (Nat.le_of_ble_eq_true rfl) (am_lifti (Nat.le_of_ble_eq_true rfl) (e_Tour_sum (r1 := h19 39 6) (rfl) ?_))
                  refine x_goto (q230c0 59 rfl) ?_
                  exact x_ireti (q230c1 4 rfl) zb230 H
              · replace H := H.2 c18
                refine x_aload_n (q230c0 45 rfl) rfl ?_
                refine x_ldc (q230c0 46 rfl) ?_
                refine x_cvi (q230c0 47 rfl) rfl oc0 rfl (Nat.le_of_ble_eq_true rfl) (am_lifti (Nat.le_of_ble_eq_true rfl) (e_At_finding (r1 := h15 0 13) (rfl) ?_))
                obtain ⟨s23, H⟩ := H
                refine ⟨s23, ?_⟩
                exact x_ireti (q230c0 48 rfl) zb230 H
            · replace H := H.2 c14
              refine x_aload_n (q230c0 37 rfl) rfl ?_
              refine x_ldc (q230c0 38 rfl) ?_
              refine x_cvi (q230c0 39 rfl) rfl oc0 rfl (Nat.le_of_ble_eq_true rfl) (am_lifti (Nat.le_of_ble_eq_true rfl) (e_At_finding (r1 := h11 0 13) (rfl) ?_))
              obtain ⟨s24, H⟩ := H
              refine ⟨s24, ?_⟩
              exact x_ireti (q230c0 40 rfl) zb230 H
          · replace H := H.2 c10
            refine x_aload_n (q230c0 27 rfl) rfl ?_
            refine x_ldc (q230c0 28 rfl) ?_
            refine x_cvi (q230c0 29 rfl) rfl oc0 rfl (Nat.le_of_ble_eq_true rfl) (am_lifti (Nat.le_of_ble_eq_true rfl) (e_At_finding (r1 := h7 0 13) (rfl) ?_))
            obtain ⟨s25, H⟩ := H
            refine ⟨s25, ?_⟩
            exact x_ireti (q230c0 30 rfl) zb230 H
        · replace H := H.2 c6
          refine x_aload_n (q230c0 19 rfl) rfl ?_
          refine x_ldc (q230c0 20 rfl) ?_
          refine x_cvi (q230c0 21 rfl) rfl oc0 rfl (Nat.le_of_ble_eq_true rfl) (am_lifti (Nat.le_of_ble_eq_true rfl) (e_At_finding (r1 := h 0 13) (rfl) ?_))
          obtain ⟨s26, H⟩ := H
          refine ⟨s26, ?_⟩
          exact x_ireti (q230c0 22 rfl) zb230 H
    · replace H := H.2 c3
      refine x_if_eq_t (q230c0 9 rfl) (by decide) ?_
      refine x_aload_n (q230c0 19 rfl) rfl ?_
      refine x_ldc (q230c0 20 rfl) ?_
      refine x_cvi (q230c0 21 rfl) rfl oc0 rfl (Nat.le_of_ble_eq_true rfl) (am_lifti (Nat.le_of_ble_eq_true rfl) (e_At_finding (r1 := h 0 13) (rfl) ?_))
      obtain ⟨s27, H⟩ := H
      refine ⟨s27, ?_⟩
      exact x_ireti (q230c0 22 rfl) zb230 H
  · replace H := H.2 c1
    refine x_if_eq_t (q230c0 4 rfl) (by decide) ?_
    refine x_aload_n (q230c0 19 rfl) rfl ?_
    refine x_ldc (q230c0 20 rfl) ?_
    refine x_cvi (q230c0 21 rfl) rfl oc0 rfl (Nat.le_of_ble_eq_true rfl) (am_lifti (Nat.le_of_ble_eq_true rfl) (e_At_finding (r1 := h 0 13) (rfl) ?_))
    obtain ⟨s28, H⟩ := H
    refine ⟨s28, ?_⟩
    exact x_ireti (q230c0 22 rfl) zb230 H
