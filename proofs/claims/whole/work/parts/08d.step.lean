theorem e_Mo_sheet {h : am_H} {x1 : Int} {x2 : Int} {x3 : Int} {P : Int → am_H → Prop} (H : ((0 ≤ x1 ∧ x1 ≤ 3) → ((x2 = 0 → ((0 ≤ x3 → ((x3 ≤ 20 → ((0 ≤ x1 ∧ x1 < 4) ∧ am_x (am_cd 2) 172 (am_qi P) 0 85 [some (.inr (.inr 56)), some (.inl x1), none, none, some (.inl 0)] [] (am_up (am_up h 76 x1 x2) 77 x1 0))) ∧ (20 < x3 → ((am_ok (h 56 3 + 1)) ∧ P (-100001) (am_up h 56 3 (h 56 3 + 1)))))) ∧ (x3 < 0 → ((am_ok (h 56 3 + 1)) ∧ P (-100003) (am_up h 56 3 (h 56 3 + 1)))))) ∧ (x2 ≠ 0 → ((x2 = 8 → ((0 ≤ x3 → ((x3 ≤ 20 → ((0 ≤ x1 ∧ x1 < 4) ∧ am_x (am_cd 2) 172 (am_qi P) 0 85 [some (.inr (.inr 56)), some (.inl x1), none, none, some (.inl 0)] [] (am_up (am_up h 76 x1 x2) 77 x1 x3))) ∧ (20 < x3 → ((am_ok (h 56 3 + 1)) ∧ P (-100001) (am_up h 56 3 (h 56 3 + 1)))))) ∧ (x3 < 0 → ((am_ok (h 56 3 + 1)) ∧ P (-100003) (am_up h 56 3 (h 56 3 + 1)))))) ∧ (x2 ≠ 8 → ((x2 = 16 → ((0 ≤ x3 → ((x3 ≤ 20 → ((0 ≤ x1 ∧ x1 < 4) ∧ am_x (am_cd 2) 172 (am_qi P) 0 85 [some (.inr (.inr 56)), some (.inl x1), none, none, some (.inl 0)] [] (am_up (am_up h 76 x1 x2) 77 x1 x3))) ∧ (20 < x3 → ((am_ok (h 56 3 + 1)) ∧ P (-100001) (am_up h 56 3 (h 56 3 + 1)))))) ∧ (x3 < 0 → ((am_ok (h 56 3 + 1)) ∧ P (-100003) (am_up h 56 3 (h 56 3 + 1)))))) ∧ (x2 ≠ 16 → ((x2 = 32 → ((0 ≤ x3 → ((x3 ≤ 20 → ((0 ≤ x1 ∧ x1 < 4) ∧ am_x (am_cd 2) 172 (am_qi P) 0 85 [some (.inr (.inr 56)), some (.inl x1), none, none, some (.inl 0)] [] (am_up (am_up h 76 x1 x2) 77 x1 x3))) ∧ (20 < x3 → ((am_ok (h 56 3 + 1)) ∧ P (-100001) (am_up h 56 3 (h 56 3 + 1)))))) ∧ (x3 < 0 → ((am_ok (h 56 3 + 1)) ∧ P (-100003) (am_up h 56 3 (h 56 3 + 1)))))) ∧ (x2 ≠ 32 → ((am_ok (h 56 3 + 1)) ∧ P (-100001) (am_up h 56 3 (h 56 3 + 1)))))))))))) ∧ ((¬(0 ≤ x1 ∧ x1 ≤ 3)) → ((am_ok (h 56 3 + 1)) ∧ P (-100001) (am_up h 56 3 (h 56 3 + 1))))) : ∃ a h1, am_cd 3 172 [.inr (.inr 56), .inl x1, .inl x2, .inl x3] h (some (.inl a)) h1 ∧ P a h1 := by
  refine am_outi (d := 2) (ls := [some (.inr (.inr 56)), some (.inl x1), some (.inl x2), some (.inl x3), none]) rfl ab172 ml172 (Nat.le_of_ble_eq_true rfl) np172 rfl ?_
  refine x_iload_n (q172c0 0 rfl) rfl ?_
  refine x_csi (q172c0 1 rfl) rfl rfl rfl (Nat.le_of_ble_eq_true rfl) (am_lifti (Nat.le_of_ble_eq_true rfl) (e_Mo_isSheet   ?_))
  refine ⟨fun c1 => ?_, fun c1 => ?_⟩
  · replace H := H.1 c1
    refine x_if_eq_f (q172c0 2 rfl) (by decide) ?_
    refine x_iload_n (q172c0 3 rfl) rfl ?_
    refine x_if_eq (q172c0 4 rfl) (fun c2 => ?_) (fun c2 => ?_)
    · replace H := H.1 c2
      refine x_iload_n (q172c0 18 rfl) rfl ?_
      refine x_if_ge (q172c0 19 rfl) (fun c3 => ?_) (fun c3 => ?_)
      · replace H := H.1 c3
        refine x_iload_n (q172c0 24 rfl) rfl ?_
        refine x_bipush (q172c0 25 rfl) ?_
        refine x_icmp_le (q172c0 26 rfl) (fun c4 => ?_) (fun c4 => ?_)
        · replace H := H.1 c4
          obtain ⟨s5, H⟩ := H
          refine x_aload_n (q172c0 31 rfl) rfl ?_
          refine x_getr (q172c0 32 rfl) fd56_28 ?_
          refine x_iload_n (q172c0 33 rfl) rfl ?_
          refine x_iload_n (q172c0 34 rfl) rfl ?_
          refine x_iastore (q172c0 35 rfl) (al76 _) rfl (Nat.le_of_ble_eq_true rfl) s5 (j := x1) rfl ?_
          refine x_aload_n (q172c0 36 rfl) rfl ?_
          refine x_getr (q172c0 37 rfl) fd56_29 ?_
          refine x_iload_n (q172c0 38 rfl) rfl ?_
          refine x_iload_n (q172c0 39 rfl) rfl ?_
          refine x_if_ne_f (q172c0 40 rfl) c2 ?_
          refine x_iconst (q172c0 41 rfl) ?_
          refine x_goto (q172c0 42 rfl) ?_
          refine x_iastore (q172c0 44 rfl) (al77 _) rfl (Nat.le_of_ble_eq_true rfl) s5 (j := x1) rfl ?_
          refine x_iconst (q172c0 45 rfl) ?_
          refine x_istore (q172c0 46 rfl) ⟨Nat.le_of_ble_eq_true rfl, trivial⟩ ?_
          exact am_x_weak (ls' := [some (.inr (.inr 56)), some (.inl x1), some (.inl x2), some (.inl x3), some (.inl 0)]) (lle_c (lle_c (lle_d trivial (lle_d trivial (lle_c (lle_nil)))))) H
        · replace H := H.2 c4
          refine x_aload_n (q172c0 27 rfl) rfl ?_
          refine x_ldc (q172c0 28 rfl) ?_
          refine x_cvi (q172c0 29 rfl) rfl oc56 rfl (Nat.le_of_ble_eq_true rfl) (am_lifti (Nat.le_of_ble_eq_true rfl) (e_Mo_finds (r1 := h 56 3) (rfl) ?_))
          obtain ⟨s6, H⟩ := H
          refine ⟨s6, ?_⟩
          exact x_ireti (q172c0 30 rfl) zb172 H
      · replace H := H.2 c3
        refine x_aload_n (q172c0 20 rfl) rfl ?_
        refine x_ldc (q172c0 21 rfl) ?_
        refine x_cvi (q172c0 22 rfl) rfl oc56 rfl (Nat.le_of_ble_eq_true rfl) (am_lifti (Nat.le_of_ble_eq_true rfl) (e_Mo_finds (r1 := h 56 3) (rfl) ?_))
        obtain ⟨s7, H⟩ := H
        refine ⟨s7, ?_⟩
        exact x_ireti (q172c0 23 rfl) zb172 H
    · replace H := H.2 c2
      refine x_iload_n (q172c0 5 rfl) rfl ?_
      refine x_bipush (q172c0 6 rfl) ?_
      refine x_icmp_eq (q172c0 7 rfl) (fun c8 => ?_) (fun c8 => ?_)
      · replace H := H.1 c8
        refine x_iload_n (q172c0 18 rfl) rfl ?_
        refine x_if_ge (q172c0 19 rfl) (fun c9 => ?_) (fun c9 => ?_)
        · replace H := H.1 c9
          refine x_iload_n (q172c0 24 rfl) rfl ?_
          refine x_bipush (q172c0 25 rfl) ?_
          refine x_icmp_le (q172c0 26 rfl) (fun c10 => ?_) (fun c10 => ?_)
          · replace H := H.1 c10
            obtain ⟨s11, H⟩ := H
            refine x_aload_n (q172c0 31 rfl) rfl ?_
            refine x_getr (q172c0 32 rfl) fd56_28 ?_
            refine x_iload_n (q172c0 33 rfl) rfl ?_
            refine x_iload_n (q172c0 34 rfl) rfl ?_
            refine x_iastore (q172c0 35 rfl) (al76 _) rfl (Nat.le_of_ble_eq_true rfl) s11 (j := x1) rfl ?_
            refine x_aload_n (q172c0 36 rfl) rfl ?_
            refine x_getr (q172c0 37 rfl) fd56_29 ?_
            refine x_iload_n (q172c0 38 rfl) rfl ?_
            refine x_iload_n (q172c0 39 rfl) rfl ?_
            refine x_if_ne_t (q172c0 40 rfl) c2 ?_
            refine x_iload_n (q172c0 43 rfl) rfl ?_
            refine x_iastore (q172c0 44 rfl) (al77 _) rfl (Nat.le_of_ble_eq_true rfl) s11 (j := x1) rfl ?_
            refine x_iconst (q172c0 45 rfl) ?_
            refine x_istore (q172c0 46 rfl) ⟨Nat.le_of_ble_eq_true rfl, trivial⟩ ?_
            exact am_x_weak (ls' := [some (.inr (.inr 56)), some (.inl x1), some (.inl x2), some (.inl x3), some (.inl 0)]) (lle_c (lle_c (lle_d trivial (lle_d trivial (lle_c (lle_nil)))))) H
          · replace H := H.2 c10
            refine x_aload_n (q172c0 27 rfl) rfl ?_
            refine x_ldc (q172c0 28 rfl) ?_
            refine x_cvi (q172c0 29 rfl) rfl oc56 rfl (Nat.le_of_ble_eq_true rfl) (am_lifti (Nat.le_of_ble_eq_true rfl) (e_Mo_finds (r1 := h 56 3) (rfl) ?_))
            obtain ⟨s12, H⟩ := H
            refine ⟨s12, ?_⟩
            exact x_ireti (q172c0 30 rfl) zb172 H
        · replace H := H.2 c9
          refine x_aload_n (q172c0 20 rfl) rfl ?_
          refine x_ldc (q172c0 21 rfl) ?_
          refine x_cvi (q172c0 22 rfl) rfl oc56 rfl (Nat.le_of_ble_eq_true rfl) (am_lifti (Nat.le_of_ble_eq_true rfl) (e_Mo_finds (r1 := h 56 3) (rfl) ?_))
          obtain ⟨s13, H⟩ := H
          refine ⟨s13, ?_⟩
          exact x_ireti (q172c0 23 rfl) zb172 H
      · replace H := H.2 c8
        refine x_iload_n (q172c0 8 rfl) rfl ?_
        refine x_bipush (q172c0 9 rfl) ?_
        refine x_icmp_eq (q172c0 10 rfl) (fun c14 => ?_) (fun c14 => ?_)
        · replace H := H.1 c14
          refine x_iload_n (q172c0 18 rfl) rfl ?_
          refine x_if_ge (q172c0 19 rfl) (fun c15 => ?_) (fun c15 => ?_)
          · replace H := H.1 c15
            refine x_iload_n (q172c0 24 rfl) rfl ?_
            refine x_bipush (q172c0 25 rfl) ?_
            refine x_icmp_le (q172c0 26 rfl) (fun c16 => ?_) (fun c16 => ?_)
            · replace H := H.1 c16
              obtain ⟨s17, H⟩ := H
              refine x_aload_n (q172c0 31 rfl) rfl ?_
              refine x_getr (q172c0 32 rfl) fd56_28 ?_
              refine x_iload_n (q172c0 33 rfl) rfl ?_
              refine x_iload_n (q172c0 34 rfl) rfl ?_
              refine x_iastore (q172c0 35 rfl) (al76 _) rfl (Nat.le_of_ble_eq_true rfl) s17 (j := x1) rfl ?_
              refine x_aload_n (q172c0 36 rfl) rfl ?_
              refine x_getr (q172c0 37 rfl) fd56_29 ?_
              refine x_iload_n (q172c0 38 rfl) rfl ?_
              refine x_iload_n (q172c0 39 rfl) rfl ?_
              refine x_if_ne_t (q172c0 40 rfl) c2 ?_
              refine x_iload_n (q172c0 43 rfl) rfl ?_
              refine x_iastore (q172c0 44 rfl) (al77 _) rfl (Nat.le_of_ble_eq_true rfl) s17 (j := x1) rfl ?_
              refine x_iconst (q172c0 45 rfl) ?_
              refine x_istore (q172c0 46 rfl) ⟨Nat.le_of_ble_eq_true rfl, trivial⟩ ?_
              exact am_x_weak (ls' := [some (.inr (.inr 56)), some (.inl x1), some (.inl x2), some (.inl x3), some (.inl 0)]) (lle_c (lle_c (lle_d trivial (lle_d trivial (lle_c (lle_nil)))))) H
            · replace H := H.2 c16
              refine x_aload_n (q172c0 27 rfl) rfl ?_
              refine x_ldc (q172c0 28 rfl) ?_
              refine x_cvi (q172c0 29 rfl) rfl oc56 rfl (Nat.le_of_ble_eq_true rfl) (am_lifti (Nat.le_of_ble_eq_true rfl) (e_Mo_finds (r1 := h 56 3) (rfl) ?_))
              obtain ⟨s18, H⟩ := H
              refine ⟨s18, ?_⟩
              exact x_ireti (q172c0 30 rfl) zb172 H
          · replace H := H.2 c15
            refine x_aload_n (q172c0 20 rfl) rfl ?_
            refine x_ldc (q172c0 21 rfl) ?_
            refine x_cvi (q172c0 22 rfl) rfl oc56 rfl (Nat.le_of_ble_eq_true rfl) (am_lifti (Nat.le_of_ble_eq_true rfl) (e_Mo_finds (r1 := h 56 3) (rfl) ?_))
            obtain ⟨s19, H⟩ := H
            refine ⟨s19, ?_⟩
            exact x_ireti (q172c0 23 rfl) zb172 H
        · replace H := H.2 c14
          refine x_iload_n (q172c0 11 rfl) rfl ?_
          refine x_bipush (q172c0 12 rfl) ?_
          refine x_icmp_eq (q172c0 13 rfl) (fun c20 => ?_) (fun c20 => ?_)
          · replace H := H.1 c20
            refine x_iload_n (q172c0 18 rfl) rfl ?_
            refine x_if_ge (q172c0 19 rfl) (fun c21 => ?_) (fun c21 => ?_)
            · replace H := H.1 c21
              refine x_iload_n (q172c0 24 rfl) rfl ?_
              refine x_bipush (q172c0 25 rfl) ?_
              refine x_icmp_le (q172c0 26 rfl) (fun c22 => ?_) (fun c22 => ?_)
              · replace H := H.1 c22
                obtain ⟨s23, H⟩ := H
                refine x_aload_n (q172c0 31 rfl) rfl ?_
                refine x_getr (q172c0 32 rfl) fd56_28 ?_
                refine x_iload_n (q172c0 33 rfl) rfl ?_
                refine x_iload_n (q172c0 34 rfl) rfl ?_
                refine x_iastore (q172c0 35 rfl) (al76 _) rfl (Nat.le_of_ble_eq_true rfl) s23 (j := x1) rfl ?_
                refine x_aload_n (q172c0 36 rfl) rfl ?_
                refine x_getr (q172c0 37 rfl) fd56_29 ?_
                refine x_iload_n (q172c0 38 rfl) rfl ?_
                refine x_iload_n (q172c0 39 rfl) rfl ?_
                refine x_if_ne_t (q172c0 40 rfl) c2 ?_
                refine x_iload_n (q172c0 43 rfl) rfl ?_
                refine x_iastore (q172c0 44 rfl) (al77 _) rfl (Nat.le_of_ble_eq_true rfl) s23 (j := x1) rfl ?_
                refine x_iconst (q172c0 45 rfl) ?_
                refine x_istore (q172c0 46 rfl) ⟨Nat.le_of_ble_eq_true rfl, trivial⟩ ?_
                exact am_x_weak (ls' := [some (.inr (.inr 56)), some (.inl x1), some (.inl x2), some (.inl x3), some (.inl 0)]) (lle_c (lle_c (lle_d trivial (lle_d trivial (lle_c (lle_nil)))))) H
              · replace H := H.2 c22
                refine x_aload_n (q172c0 27 rfl) rfl ?_
                refine x_ldc (q172c0 28 rfl) ?_
                refine x_cvi (q172c0 29 rfl) rfl oc56 rfl (Nat.le_of_ble_eq_true rfl) (am_lifti (Nat.le_of_ble_eq_true rfl) (e_Mo_finds (r1 := h 56 3) (rfl) ?_))
                obtain ⟨s24, H⟩ := H
                refine ⟨s24, ?_⟩
                exact x_ireti (q172c0 30 rfl) zb172 H
            · replace H := H.2 c21
              refine x_aload_n (q172c0 20 rfl) rfl ?_
              refine x_ldc (q172c0 21 rfl) ?_
              refine x_cvi (q172c0 22 rfl) rfl oc56 rfl (Nat.le_of_ble_eq_true rfl) (am_lifti (Nat.le_of_ble_eq_true rfl) (e_Mo_finds (r1 := h 56 3) (rfl) ?_))
              obtain ⟨s25, H⟩ := H
              refine ⟨s25, ?_⟩
              exact x_ireti (q172c0 23 rfl) zb172 H
          · replace H := H.2 c20
            refine x_aload_n (q172c0 14 rfl) rfl ?_
            refine x_ldc (q172c0 15 rfl) ?_
            refine x_cvi (q172c0 16 rfl) rfl oc56 rfl (Nat.le_of_ble_eq_true rfl) (am_lifti (Nat.le_of_ble_eq_true rfl) (e_Mo_finds (r1 := h 56 3) (rfl) ?_))
            obtain ⟨s26, H⟩ := H
            refine ⟨s26, ?_⟩
            exact x_ireti (q172c0 17 rfl) zb172 H
  · replace H := H.2 c1
    refine x_if_eq_t (q172c0 2 rfl) (by decide) ?_
    refine x_aload_n (q172c0 14 rfl) rfl ?_
    refine x_ldc (q172c0 15 rfl) ?_
    refine x_cvi (q172c0 16 rfl) rfl oc56 rfl (Nat.le_of_ble_eq_true rfl) (am_lifti (Nat.le_of_ble_eq_true rfl) (e_Mo_finds (r1 := h 56 3) (rfl) ?_))
    obtain ⟨s27, H⟩ := H
    refine ⟨s27, ?_⟩
    exact x_ireti (q172c0 17 rfl) zb172 H
theorem g_Mo_sheet_85 {h : am_H} {x1 : Int} {x4 : Int} {P : Int → am_H → Prop} (H : (20 ≤ x4 → ((0 ≤ x1 ∧ x1 < 4) ∧ P (h 77 x1) h)) ∧ (x4 < 20 → ((am_ok (20 * x1) ∧ am_ok (20 * x1 + x4) ∧ (0 ≤ 20 * x1 + x4 ∧ 20 * x1 + x4 < 80) ∧ am_ok (x4 + 1)) ∧ am_x (am_cd 2) 172 (am_qi P) 0 85 [some (.inr (.inr 56)), some (.inl x1), none, none, some (.inl (x4 + 1))] [] (am_up h 78 (20 * x1 + x4) 0)))) : am_x (am_cd 2) 172 (am_qi P) 0 85 [some (.inr (.inr 56)), some (.inl x1), none, none, some (.inl x4)] [] h := by
  refine x_iload (q172c0 47 rfl) rfl ?_
  refine x_bipush (q172c0 48 rfl) ?_
  refine x_icmp_ge (q172c0 49 rfl) (fun c1 => ?_) (fun c1 => ?_)
  · replace H := H.1 c1
    obtain ⟨s2, H⟩ := H
    refine x_aload_n (q172c1 1 rfl) rfl ?_
    refine x_getr (q172c1 2 rfl) fd56_29 ?_
    refine x_iload_n (q172c1 3 rfl) rfl ?_
    refine x_iaload (q172c1 4 rfl) (al77 _) rfl (ag_l rfl rfl (rfl)) s2 ?_
    exact x_ireti (q172c1 5 rfl) zb172 H
  · replace H := H.2 c1
    obtain ⟨⟨s3, s4, s5, s6⟩, H⟩ := H
    refine x_aload_n (q172c0 50 rfl) rfl ?_
    refine x_getr (q172c0 51 rfl) fd56_30 ?_
    refine x_bipush (q172c0 52 rfl) ?_
    refine x_iload_n (q172c0 53 rfl) rfl ?_
    refine x_imul (q172c0 54 rfl) s3 ?_
    refine x_iload (q172c0 55 rfl) rfl ?_
    refine x_iadd (q172c0 56 rfl) s4 ?_
    refine x_iconst (q172c0 57 rfl) ?_
    refine x_iastore (q172c0 58 rfl) (al78 _) rfl (Nat.le_of_ble_eq_true rfl) s5 (j := 20 * x1 + x4) rfl ?_
    refine x_iinc (q172c0 59 rfl) rfl ⟨Nat.le_of_ble_eq_true rfl, trivial⟩ s6 ?_
    refine x_goto (q172c1 0 rfl) ?_
    exact H
theorem e_Mo_put {h : am_H} {x1 : Int} {x2 : Int} {x3 : Int} {P : Int → am_H → Prop} (H : ((0 ≤ x1 ∧ x1 ≤ 3) → ((0 ≤ x1 ∧ x1 < 4) ∧ ((h 76 x1 ≠ 0 → ((am_ok (h 77 x1 - 1)) ∧ (((0 ≤ x2 ∧ x2 ≤ h 77 x1 - 1) → ((am_ok (20 * x1) ∧ am_ok (20 * x1 + x2)) ∧ ((h 76 x1 ≠ 8 → ((h 76 x1 ≠ 16 → ((0 ≤ 20 * x1 + x2 ∧ 20 * x1 + x2 < 80) ∧ P 0 (am_up h 78 (20 * x1 + x2) x3))) ∧ (h 76 x1 = 16 → ((0 ≤ 20 * x1 + x2 ∧ 20 * x1 + x2 < 80) ∧ P 0 (am_up h 78 (20 * x1 + x2) (Int32.ofInt x3).toInt16.toInt))))) ∧ (h 76 x1 = 8 → ((0 ≤ 20 * x1 + x2 ∧ 20 * x1 + x2 < 80) ∧ P 0 (am_up h 78 (20 * x1 + x2) (Int32.ofInt x3).toInt8.toInt)))))) ∧ ((¬(0 ≤ x2 ∧ x2 ≤ h 77 x1 - 1)) → ((am_ok (h 56 3 + 1)) ∧ P (-100001) (am_up h 56 3 (h 56 3 + 1))))))) ∧ (h 76 x1 = 0 → ((am_ok (h 56 3 + 1)) ∧ P (-100002) (am_up h 56 3 (h 56 3 + 1))))))) ∧ ((¬(0 ≤ x1 ∧ x1 ≤ 3)) → ((am_ok (h 56 3 + 1)) ∧ P (-100001) (am_up h 56 3 (h 56 3 + 1))))) : ∃ a h1, am_cd 3 173 [.inr (.inr 56), .inl x1, .inl x2, .inl x3] h (some (.inl a)) h1 ∧ P a h1 := by
  refine am_outi (d := 2) (ls := [some (.inr (.inr 56)), some (.inl x1), some (.inl x2), some (.inl x3)]) rfl ab173 ml173 (Nat.le_of_ble_eq_true rfl) np173 rfl ?_
  refine x_iload_n (q173c0 0 rfl) rfl ?_
  refine x_csi (q173c0 1 rfl) rfl rfl rfl (Nat.le_of_ble_eq_true rfl) (am_lifti (Nat.le_of_ble_eq_true rfl) (e_Mo_isSheet   ?_))
  refine ⟨fun c1 => ?_, fun c1 => ?_⟩
  · replace H := H.1 c1
    obtain ⟨s2, H⟩ := H
    refine x_if_ne_t (q173c0 2 rfl) (by decide) ?_
    refine x_aload_n (q173c0 7 rfl) rfl ?_
    refine x_getr (q173c0 8 rfl) fd56_28 ?_
    refine x_iload_n (q173c0 9 rfl) rfl ?_
    refine x_iaload (q173c0 10 rfl) (al76 _) rfl (ag_l rfl rfl (rfl)) s2 ?_
    refine x_if_ne (q173c0 11 rfl) (fun c3 => ?_) (fun c3 => ?_)
    · replace H := H.1 c3
      obtain ⟨s4, H⟩ := H
      refine x_iload_n (q173c0 16 rfl) rfl ?_
      refine x_iconst (q173c0 17 rfl) ?_
      refine x_aload_n (q173c0 18 rfl) rfl ?_
      refine x_getr (q173c0 19 rfl) fd56_29 ?_
      refine x_iload_n (q173c0 20 rfl) rfl ?_
      refine x_iaload (q173c0 21 rfl) (al77 _) rfl (ag_l rfl rfl (rfl)) s2 ?_
      refine x_iconst (q173c0 22 rfl) ?_
      refine x_isub (q173c0 23 rfl) s4 ?_
      refine x_csi (q173c0 24 rfl) rfl rfl rfl (Nat.le_of_ble_eq_true rfl) (am_lifti (Nat.le_of_ble_eq_true rfl) (e_Mo_in   ?_))
      refine ⟨fun c5 => ?_, fun c5 => ?_⟩
      · replace H := H.1 c5
        obtain ⟨⟨s6, s7⟩, H⟩ := H
        refine x_if_ne_t (q173c0 25 rfl) (by decide) ?_
        refine x_aload_n (q173c0 30 rfl) rfl ?_
        refine x_getr (q173c0 31 rfl) fd56_30 ?_
        refine x_bipush (q173c0 32 rfl) ?_
        refine x_iload_n (q173c0 33 rfl) rfl ?_
        refine x_imul (q173c0 34 rfl) s6 ?_
        refine x_iload_n (q173c0 35 rfl) rfl ?_
        refine x_iadd (q173c0 36 rfl) s7 ?_
        refine x_aload_n (q173c0 37 rfl) rfl ?_
        refine x_getr (q173c0 38 rfl) fd56_28 ?_
        refine x_iload_n (q173c0 39 rfl) rfl ?_
        refine x_iaload (q173c0 40 rfl) (al76 _) rfl (ag_l rfl rfl (rfl)) s2 ?_
        refine x_bipush (q173c0 41 rfl) ?_
        refine x_icmp_ne (q173c0 42 rfl) (fun c8 => ?_) (fun c8 => ?_)
        · replace H := H.1 c8
          refine x_aload_n (q173c0 46 rfl) rfl ?_
          refine x_getr (q173c0 47 rfl) fd56_28 ?_
          refine x_iload_n (q173c0 48 rfl) rfl ?_
          refine x_iaload (q173c0 49 rfl) (al76 _) rfl (ag_l rfl rfl (rfl)) s2 ?_
          refine x_bipush (q173c0 50 rfl) ?_
          refine x_icmp_ne (q173c0 51 rfl) (fun c9 => ?_) (fun c9 => ?_)
          · replace H := H.1 c9
            obtain ⟨s10, H⟩ := H
            refine x_iload_n (q173c0 55 rfl) rfl ?_
            refine x_iastore (q173c0 56 rfl) (al78 _) rfl (Nat.le_of_ble_eq_true rfl) s10 (j := 20 * x1 + x2) rfl ?_
            refine x_iconst (q173c0 57 rfl) ?_
            exact x_ireti (q173c0 58 rfl) zb173 H
          · replace H := H.2 c9
            obtain ⟨s11, H⟩ := H
            refine x_iload_n (q173c0 52 rfl) rfl ?_
            refine x_i2s (q173c0 53 rfl) ?_
            refine x_goto (q173c0 54 rfl) ?_
            refine x_iastore (q173c0 56 rfl) (al78 _) rfl (Nat.le_of_ble_eq_true rfl) s11 (j := 20 * x1 + x2) rfl ?_
            refine x_iconst (q173c0 57 rfl) ?_
            exact x_ireti (q173c0 58 rfl) zb173 H
        · replace H := H.2 c8
          obtain ⟨s12, H⟩ := H
          refine x_iload_n (q173c0 43 rfl) rfl ?_
          refine x_i2b (q173c0 44 rfl) ?_
          refine x_goto (q173c0 45 rfl) ?_
          refine x_iastore (q173c0 56 rfl) (al78 _) rfl (Nat.le_of_ble_eq_true rfl) s12 (j := 20 * x1 + x2) rfl ?_
          refine x_iconst (q173c0 57 rfl) ?_
          exact x_ireti (q173c0 58 rfl) zb173 H
      · replace H := H.2 c5
        refine x_if_ne_f (q173c0 25 rfl) (by decide) ?_
        refine x_aload_n (q173c0 26 rfl) rfl ?_
        refine x_ldc (q173c0 27 rfl) ?_
        refine x_cvi (q173c0 28 rfl) rfl oc56 rfl (Nat.le_of_ble_eq_true rfl) (am_lifti (Nat.le_of_ble_eq_true rfl) (e_Mo_finds (r1 := h 56 3) (rfl) ?_))
        obtain ⟨s13, H⟩ := H
        refine ⟨s13, ?_⟩
        exact x_ireti (q173c0 29 rfl) zb173 H
    · replace H := H.2 c3
      refine x_aload_n (q173c0 12 rfl) rfl ?_
      refine x_ldc (q173c0 13 rfl) ?_
      refine x_cvi (q173c0 14 rfl) rfl oc56 rfl (Nat.le_of_ble_eq_true rfl) (am_lifti (Nat.le_of_ble_eq_true rfl) (e_Mo_finds (r1 := h 56 3) (rfl) ?_))
      obtain ⟨s14, H⟩ := H
      refine ⟨s14, ?_⟩
      exact x_ireti (q173c0 15 rfl) zb173 H
  · replace H := H.2 c1
    refine x_if_ne_f (q173c0 2 rfl) (by decide) ?_
    refine x_aload_n (q173c0 3 rfl) rfl ?_
    refine x_ldc (q173c0 4 rfl) ?_
    refine x_cvi (q173c0 5 rfl) rfl oc56 rfl (Nat.le_of_ble_eq_true rfl) (am_lifti (Nat.le_of_ble_eq_true rfl) (e_Mo_finds (r1 := h 56 3) (rfl) ?_))
    obtain ⟨s15, H⟩ := H
    refine ⟨s15, ?_⟩
    exact x_ireti (q173c0 6 rfl) zb173 H
theorem e_Mo_copy {h : am_H} {x1 : Int} {x2 : Int} {x3 : Int} {x4 : Int} {x5 : Int} {P : Int → am_H → Prop} (H : ((0 ≤ x1 ∧ x1 ≤ 3) → (((0 ≤ x3 ∧ x3 ≤ 3) → ((0 ≤ x1 ∧ x1 < 4) ∧ ((h 76 x1 = 0 → ((am_ok (h 56 3 + 1)) ∧ P (-100002) (am_up h 56 3 (h 56 3 + 1)))) ∧ (h 76 x1 ≠ 0 → ((0 ≤ x3 ∧ x3 < 4) ∧ ((h 76 x3 ≠ 0 → ((h 76 x1 = h 76 x3 → ((x2 < 0 → ((am_ok (h 56 3 + 1)) ∧ P (-100001) (am_up h 56 3 (h 56 3 + 1)))) ∧ (0 ≤ x2 → ((x4 < 0 → ((am_ok (h 56 3 + 1)) ∧ P (-100001) (am_up h 56 3 (h 56 3 + 1)))) ∧ (0 ≤ x4 → ((x5 < 0 → ((am_ok (h 56 3 + 1)) ∧ P (-100001) (am_up h 56 3 (h 56 3 + 1)))) ∧ (0 ≤ x5 → ((0 < am_lc ((Int64.ofInt x2) + (Int64.ofInt x5)) (Int64.ofInt (h 77 x1)) → ((am_ok (h 56 3 + 1)) ∧ P (-100001) (am_up h 56 3 (h 56 3 + 1)))) ∧ (am_lc ((Int64.ofInt x2) + (Int64.ofInt x5)) (Int64.ofInt (h 77 x1)) ≤ 0 → ((am_lc ((Int64.ofInt x4) + (Int64.ofInt x5)) (Int64.ofInt (h 77 x3)) ≤ 0 → am_x (am_cd 2) 174 (am_qi P) 0 127 [some (.inr (.inr 56)), some (.inl x1), some (.inl x2), some (.inl x3), some (.inl x4), some (.inl x5), some (.inl 0)] [] h) ∧ (0 < am_lc ((Int64.ofInt x4) + (Int64.ofInt x5)) (Int64.ofInt (h 77 x3)) → ((am_ok (h 56 3 + 1)) ∧ P (-100001) (am_up h 56 3 (h 56 3 + 1)))))))))))))) ∧ (h 76 x1 ≠ h 76 x3 → ((am_ok (h 56 3 + 1)) ∧ P (-100004) (am_up h 56 3 (h 56 3 + 1)))))) ∧ (h 76 x3 = 0 → ((am_ok (h 56 3 + 1)) ∧ P (-100002) (am_up h 56 3 (h 56 3 + 1)))))))))) ∧ ((¬(0 ≤ x3 ∧ x3 ≤ 3)) → ((am_ok (h 56 3 + 1)) ∧ P (-100001) (am_up h 56 3 (h 56 3 + 1)))))) ∧ ((¬(0 ≤ x1 ∧ x1 ≤ 3)) → ((am_ok (h 56 3 + 1)) ∧ P (-100001) (am_up h 56 3 (h 56 3 + 1))))) : ∃ a h1, am_cd 3 174 [.inr (.inr 56), .inl x1, .inl x2, .inl x3, .inl x4, .inl x5] h (some (.inl a)) h1 ∧ P a h1 := by
  refine am_outi (d := 2) (ls := [some (.inr (.inr 56)), some (.inl x1), some (.inl x2), some (.inl x3), some (.inl x4), some (.inl x5), none]) rfl ab174 ml174 (Nat.le_of_ble_eq_true rfl) np174 rfl ?_
  refine x_iload_n (q174c0 0 rfl) rfl ?_
  refine x_csi (q174c0 1 rfl) rfl rfl rfl (Nat.le_of_ble_eq_true rfl) (am_lifti (Nat.le_of_ble_eq_true rfl) (e_Mo_isSheet   ?_))
  refine ⟨fun c1 => ?_, fun c1 => ?_⟩
  · replace H := H.1 c1
    refine x_if_eq_f (q174c0 2 rfl) (by decide) ?_
    refine x_iload_n (q174c0 3 rfl) rfl ?_
    refine x_csi (q174c0 4 rfl) rfl rfl rfl (Nat.le_of_ble_eq_true rfl) (am_lifti (Nat.le_of_ble_eq_true rfl) (e_Mo_isSheet   ?_))
    refine ⟨fun c2 => ?_, fun c2 => ?_⟩
    · replace H := H.1 c2
      obtain ⟨s3, H⟩ := H
      refine x_if_ne_t (q174c0 5 rfl) (by decide) ?_
      refine x_aload_n (q174c0 10 rfl) rfl ?_
      refine x_getr (q174c0 11 rfl) fd56_28 ?_
      refine x_iload_n (q174c0 12 rfl) rfl ?_
      refine x_iaload (q174c0 13 rfl) (al76 _) rfl (ag_l rfl rfl (rfl)) s3 ?_
      refine x_if_eq (q174c0 14 rfl) (fun c4 => ?_) (fun c4 => ?_)
      · replace H := H.1 c4
        refine x_aload_n (q174c0 20 rfl) rfl ?_
        refine x_ldc (q174c0 21 rfl) ?_
        refine x_cvi (q174c0 22 rfl) rfl oc56 rfl (Nat.le_of_ble_eq_true rfl) (am_lifti (Nat.le_of_ble_eq_true rfl) (e_Mo_finds (r1 := h 56 3) (rfl) ?_))
        obtain ⟨s5, H⟩ := H
        refine ⟨s5, ?_⟩
        exact x_ireti (q174c0 23 rfl) zb174 H
      · replace H := H.2 c4
        obtain ⟨s6, H⟩ := H
        refine x_aload_n (q174c0 15 rfl) rfl ?_
        refine x_getr (q174c0 16 rfl) fd56_28 ?_
        refine x_iload_n (q174c0 17 rfl) rfl ?_
        refine x_iaload (q174c0 18 rfl) (al76 _) rfl (ag_l rfl rfl (rfl)) s6 ?_
        refine x_if_ne (q174c0 19 rfl) (fun c7 => ?_) (fun c7 => ?_)
        · replace H := H.1 c7
          refine x_aload_n (q174c0 24 rfl) rfl ?_
          refine x_getr (q174c0 25 rfl) fd56_28 ?_
          refine x_iload_n (q174c0 26 rfl) rfl ?_
          refine x_iaload (q174c0 27 rfl) (al76 _) rfl (ag_l rfl rfl (rfl)) s3 ?_
          refine x_aload_n (q174c0 28 rfl) rfl ?_
          refine x_getr (q174c0 29 rfl) fd56_28 ?_
          refine x_iload_n (q174c0 30 rfl) rfl ?_
          refine x_iaload (q174c0 31 rfl) (al76 _) rfl (ag_l rfl rfl (rfl)) s6 ?_
          refine x_icmp_eq (q174c0 32 rfl) (fun c8 => ?_) (fun c8 => ?_)
          · replace H := H.1 c8
            refine x_iload_n (q174c0 37 rfl) rfl ?_
            refine x_if_lt (q174c0 38 rfl) (fun c9 => ?_) (fun c9 => ?_)
            · replace H := H.1 c9
              refine x_aload_n (q174c1 7 rfl) rfl ?_
              refine x_ldc (q174c1 8 rfl) ?_
              refine x_cvi (q174c1 9 rfl) rfl oc56 rfl (Nat.le_of_ble_eq_true rfl) (am_lifti (Nat.le_of_ble_eq_true rfl) (e_Mo_finds (r1 := h 56 3) (rfl) ?_))
              obtain ⟨s10, H⟩ := H
              refine ⟨s10, ?_⟩
              exact x_ireti (q174c1 10 rfl) zb174 H
            · replace H := H.2 c9
              refine x_iload (q174c0 39 rfl) rfl ?_
              refine x_if_lt (q174c0 40 rfl) (fun c11 => ?_) (fun c11 => ?_)
              · replace H := H.1 c11
                refine x_aload_n (q174c1 7 rfl) rfl ?_
                refine x_ldc (q174c1 8 rfl) ?_
                refine x_cvi (q174c1 9 rfl) rfl oc56 rfl (Nat.le_of_ble_eq_true rfl) (am_lifti (Nat.le_of_ble_eq_true rfl) (e_Mo_finds (r1 := h 56 3) (rfl) ?_))
                obtain ⟨s12, H⟩ := H
                refine ⟨s12, ?_⟩
                exact x_ireti (q174c1 10 rfl) zb174 H
              · replace H := H.2 c11
                refine x_iload (q174c0 41 rfl) rfl ?_
                refine x_if_lt (q174c0 42 rfl) (fun c13 => ?_) (fun c13 => ?_)
                · replace H := H.1 c13
                  refine x_aload_n (q174c1 7 rfl) rfl ?_
                  refine x_ldc (q174c1 8 rfl) ?_
                  refine x_cvi (q174c1 9 rfl) rfl oc56 rfl (Nat.le_of_ble_eq_true rfl) (am_lifti (Nat.le_of_ble_eq_true rfl) (e_Mo_finds (r1 := h 56 3) (rfl) ?_))
                  obtain ⟨s14, H⟩ := H
                  refine ⟨s14, ?_⟩
                  exact x_ireti (q174c1 10 rfl) zb174 H
                · replace H := H.2 c13
                  refine x_iload_n (q174c0 43 rfl) rfl ?_
                  refine x_i2l (q174c0 44 rfl) ?_
                  refine x_iload (q174c0 45 rfl) rfl ?_
                  refine x_i2l (q174c0 46 rfl) ?_
                  refine x_ladd (q174c0 47 rfl) ?_
                  refine x_aload_n (q174c0 48 rfl) rfl ?_
                  refine x_getr (q174c0 49 rfl) fd56_29 ?_
                  refine x_iload_n (q174c0 50 rfl) rfl ?_
                  refine x_iaload (q174c0 51 rfl) (al77 _) rfl (ag_l rfl rfl (rfl)) s3 ?_
                  refine x_i2l (q174c0 52 rfl) ?_
                  refine x_lcmp (q174c0 53 rfl) ?_
                  refine x_if_gt (q174c0 54 rfl) (fun c15 => ?_) (fun c15 => ?_)
                  · replace H := H.1 c15
                    refine x_aload_n (q174c1 7 rfl) rfl ?_
                    refine x_ldc (q174c1 8 rfl) ?_
                    refine x_cvi (q174c1 9 rfl) rfl oc56 rfl (Nat.le_of_ble_eq_true rfl) (am_lifti (Nat.le_of_ble_eq_true rfl) (e_Mo_finds (r1 := h 56 3) (rfl) ?_))
                    obtain ⟨s16, H⟩ := H
                    refine ⟨s16, ?_⟩
                    exact x_ireti (q174c1 10 rfl) zb174 H
                  · replace H := H.2 c15
                    refine x_iload (q174c0 55 rfl) rfl ?_
                    refine x_i2l (q174c0 56 rfl) ?_
                    refine x_iload (q174c0 57 rfl) rfl ?_
                    refine x_i2l (q174c0 58 rfl) ?_
                    refine x_ladd (q174c0 59 rfl) ?_
                    refine x_aload_n (q174c1 0 rfl) rfl ?_
                    refine x_getr (q174c1 1 rfl) fd56_29 ?_
                    refine x_iload_n (q174c1 2 rfl) rfl ?_
                    refine x_iaload (q174c1 3 rfl) (al77 _) rfl (ag_l rfl rfl (rfl)) s6 ?_
                    refine x_i2l (q174c1 4 rfl) ?_
                    refine x_lcmp (q174c1 5 rfl) ?_
                    refine x_if_le (q174c1 6 rfl) (fun c17 => ?_) (fun c17 => ?_)
                    · replace H := H.1 c17
                      refine x_iconst (q174c1 11 rfl) ?_
                      refine x_istore (q174c1 12 rfl) ⟨Nat.le_of_ble_eq_true rfl, trivial⟩ ?_
                      exact H
                    · replace H := H.2 c17
                      refine x_aload_n (q174c1 7 rfl) rfl ?_
                      refine x_ldc (q174c1 8 rfl) ?_
                      refine x_cvi (q174c1 9 rfl) rfl oc56 rfl (Nat.le_of_ble_eq_true rfl) (am_lifti (Nat.le_of_ble_eq_true rfl) (e_Mo_finds (r1 := h 56 3) (rfl) ?_))
                      obtain ⟨s18, H⟩ := H
                      refine ⟨s18, ?_⟩
                      exact x_ireti (q174c1 10 rfl) zb174 H
          · replace H := H.2 c8
            refine x_aload_n (q174c0 33 rfl) rfl ?_
            refine x_ldc (q174c0 34 rfl) ?_
            refine x_cvi (q174c0 35 rfl) rfl oc56 rfl (Nat.le_of_ble_eq_true rfl) (am_lifti (Nat.le_of_ble_eq_true rfl) (e_Mo_finds (r1 := h 56 3) (rfl) ?_))
            obtain ⟨s19, H⟩ := H
            refine ⟨s19, ?_⟩
            exact x_ireti (q174c0 36 rfl) zb174 H
        · replace H := H.2 c7
          refine x_aload_n (q174c0 20 rfl) rfl ?_
          refine x_ldc (q174c0 21 rfl) ?_
          refine x_cvi (q174c0 22 rfl) rfl oc56 rfl (Nat.le_of_ble_eq_true rfl) (am_lifti (Nat.le_of_ble_eq_true rfl) (e_Mo_finds (r1 := h 56 3) (rfl) ?_))
          obtain ⟨s20, H⟩ := H
          refine ⟨s20, ?_⟩
          exact x_ireti (q174c0 23 rfl) zb174 H
    · replace H := H.2 c2
      refine x_if_ne_f (q174c0 5 rfl) (by decide) ?_
      refine x_aload_n (q174c0 6 rfl) rfl ?_
      refine x_ldc (q174c0 7 rfl) ?_
      refine x_cvi (q174c0 8 rfl) rfl oc56 rfl (Nat.le_of_ble_eq_true rfl) (am_lifti (Nat.le_of_ble_eq_true rfl) (e_Mo_finds (r1 := h 56 3) (rfl) ?_))
      obtain ⟨s21, H⟩ := H
      refine ⟨s21, ?_⟩
      exact x_ireti (q174c0 9 rfl) zb174 H
  · replace H := H.2 c1
    refine x_if_eq_t (q174c0 2 rfl) (by decide) ?_
    refine x_aload_n (q174c0 6 rfl) rfl ?_
    refine x_ldc (q174c0 7 rfl) ?_
    refine x_cvi (q174c0 8 rfl) rfl oc56 rfl (Nat.le_of_ble_eq_true rfl) (am_lifti (Nat.le_of_ble_eq_true rfl) (e_Mo_finds (r1 := h 56 3) (rfl) ?_))
    obtain ⟨s22, H⟩ := H
    refine ⟨s22, ?_⟩
    exact x_ireti (q174c0 9 rfl) zb174 H
theorem g_Mo_copy_127 {h : am_H} {x1 : Int} {x2 : Int} {x3 : Int} {x4 : Int} {x5 : Int} {x6 : Int} {P : Int → am_H → Prop} (H : (x5 ≤ x6 → am_x (am_cd 2) 174 (am_qi P) 0 164 [some (.inr (.inr 56)), none, none, some (.inl x3), some (.inl x4), some (.inl x5), some (.inl 0)] [] h) ∧ (x6 < x5 → ((am_ok (20 * x1) ∧ am_ok (20 * x1 + x2) ∧ am_ok (20 * x1 + x2 + x6) ∧ (0 ≤ 20 * x1 + x2 + x6 ∧ 20 * x1 + x2 + x6 < 80) ∧ (0 ≤ x6 ∧ x6 < 20) ∧ am_ok (x6 + 1)) ∧ am_x (am_cd 2) 174 (am_qi P) 0 127 [some (.inr (.inr 56)), some (.inl x1), some (.inl x2), some (.inl x3), some (.inl x4), some (.inl x5), some (.inl (x6 + 1))] [] (am_up h 79 x6 (h 78 (20 * x1 + x2 + x6)))))) : am_x (am_cd 2) 174 (am_qi P) 0 127 [some (.inr (.inr 56)), some (.inl x1), some (.inl x2), some (.inl x3), some (.inl x4), some (.inl x5), some (.inl x6)] [] h := by
  refine x_iload (q174c1 13 rfl) rfl ?_
  refine x_iload (q174c1 14 rfl) rfl ?_
  refine x_icmp_ge (q174c1 15 rfl) (fun c1 => ?_) (fun c1 => ?_)
  · replace H := H.1 c1
    refine x_iconst (q174c1 32 rfl) ?_
    refine x_istore (q174c1 33 rfl) ⟨Nat.le_of_ble_eq_true rfl, trivial⟩ ?_
    exact am_x_weak (ls' := [some (.inr (.inr 56)), some (.inl x1), some (.inl x2), some (.inl x3), some (.inl x4), some (.inl x5), some (.inl 0)]) (lle_c (lle_d trivial (lle_d trivial (lle_c (lle_c (lle_c (lle_c (lle_nil)))))))) H
  · replace H := H.2 c1
    obtain ⟨⟨s2, s3, s4, s5, s6, s7⟩, H⟩ := H
    refine x_aload_n (q174c1 16 rfl) rfl ?_
    refine x_getr (q174c1 17 rfl) fd56_31 ?_
    refine x_iload (q174c1 18 rfl) rfl ?_
    refine x_aload_n (q174c1 19 rfl) rfl ?_
    refine x_getr (q174c1 20 rfl) fd56_30 ?_
    refine x_bipush (q174c1 21 rfl) ?_
    refine x_iload_n (q174c1 22 rfl) rfl ?_
    refine x_imul (q174c1 23 rfl) s2 ?_
    refine x_iload_n (q174c1 24 rfl) rfl ?_
    refine x_iadd (q174c1 25 rfl) s3 ?_
    refine x_iload (q174c1 26 rfl) rfl ?_
    refine x_iadd (q174c1 27 rfl) s4 ?_
    refine x_iaload (q174c1 28 rfl) (al78 _) rfl (ag_l rfl rfl (rfl)) s5 ?_
    refine x_iastore (q174c1 29 rfl) (al79 _) rfl (Nat.le_of_ble_eq_true rfl) s6 (j := x6) rfl ?_
    refine x_iinc (q174c1 30 rfl) rfl ⟨Nat.le_of_ble_eq_true rfl, trivial⟩ s7 ?_
    refine x_goto (q174c1 31 rfl) ?_
    exact H
theorem g_Mo_copy_164 {h : am_H} {x3 : Int} {x4 : Int} {x5 : Int} {x6 : Int} {P : Int → am_H → Prop} (H : (x5 ≤ x6 → P x5 h) ∧ (x6 < x5 → ((am_ok (20 * x3) ∧ am_ok (20 * x3 + x4) ∧ am_ok (20 * x3 + x4 + x6) ∧ (0 ≤ x6 ∧ x6 < 20) ∧ (0 ≤ 20 * x3 + x4 + x6 ∧ 20 * x3 + x4 + x6 < 80) ∧ am_ok (x6 + 1)) ∧ am_x (am_cd 2) 174 (am_qi P) 0 164 [some (.inr (.inr 56)), none, none, some (.inl x3), some (.inl x4), some (.inl x5), some (.inl (x6 + 1))] [] (am_up h 78 (20 * x3 + x4 + x6) (h 79 x6))))) : am_x (am_cd 2) 174 (am_qi P) 0 164 [some (.inr (.inr 56)), none, none, some (.inl x3), some (.inl x4), some (.inl x5), some (.inl x6)] [] h := by
  refine x_iload (q174c1 34 rfl) rfl ?_
  refine x_iload (q174c1 35 rfl) rfl ?_
  refine x_icmp_ge (q174c1 36 rfl) (fun c1 => ?_) (fun c1 => ?_)
  · replace H := H.1 c1
    refine x_iload (q174c1 53 rfl) rfl ?_
    exact x_ireti (q174c1 54 rfl) zb174 H
  · replace H := H.2 c1
    obtain ⟨⟨s2, s3, s4, s5, s6, s7⟩, H⟩ := H
    refine x_aload_n (q174c1 37 rfl) rfl ?_
    refine x_getr (q174c1 38 rfl) fd56_30 ?_
    refine x_bipush (q174c1 39 rfl) ?_
    refine x_iload_n (q174c1 40 rfl) rfl ?_
    refine x_imul (q174c1 41 rfl) s2 ?_
    refine x_iload (q174c1 42 rfl) rfl ?_
    refine x_iadd (q174c1 43 rfl) s3 ?_
    refine x_iload (q174c1 44 rfl) rfl ?_
    refine x_iadd (q174c1 45 rfl) s4 ?_
    refine x_aload_n (q174c1 46 rfl) rfl ?_
    refine x_getr (q174c1 47 rfl) fd56_31 ?_
    refine x_iload (q174c1 48 rfl) rfl ?_
    refine x_iaload (q174c1 49 rfl) (al79 _) rfl (ag_l rfl rfl (rfl)) s5 ?_
    refine x_iastore (q174c1 50 rfl) (al78 _) rfl (Nat.le_of_ble_eq_true rfl) s6 (j := 20 * x3 + x4 + x6) rfl ?_
    refine x_iinc (q174c1 51 rfl) rfl ⟨Nat.le_of_ble_eq_true rfl, trivial⟩ s7 ?_
    refine x_goto (q174c1 52 rfl) ?_
    exact H
theorem e_Border_listen {h : am_H} {x1 : Int} {x2 : Int} {x3 : Int} {x4 : Int} {P : am_H → Prop} (H : am_x (am_cd 3) 175 (am_qv P) 0 13 [some (.inr (.inr 32)), some (.inl x1), some (.inl x2), some (.inl x3), some (.inl x4), some (.inl 0), none] [] (am_up (am_up h 32 2 0) 32 3 0)) : ∃ h1, am_cd 4 175 [.inr (.inr 32), .inl x1, .inl x2, .inl x3, .inl x4] h none h1 ∧ P h1 := by
  refine am_outv (d := 3) (ls := [some (.inr (.inr 32)), some (.inl x1), some (.inl x2), some (.inl x3), some (.inl x4), none, none]) rfl ab175 ml175 (Nat.le_of_ble_eq_true rfl) np175 rfl ?_
  refine x_aload_n (q175c0 0 rfl) rfl ?_
  refine x_iconst (q175c0 1 rfl) ?_
  refine x_putf (q175c0 2 rfl) fd32_2 ?_
  refine x_aload_n (q175c0 3 rfl) rfl ?_
  refine x_iconst (q175c0 4 rfl) ?_
  refine x_putf (q175c0 5 rfl) fd32_3 ?_
  refine x_iconst (q175c0 6 rfl) ?_
  refine x_istore (q175c0 7 rfl) ⟨Nat.le_of_ble_eq_true rfl, trivial⟩ ?_
  exact H
theorem g_Border_listen_13 {h : am_H} {x1 : Int} {x2 : Int} {x3 : Int} {x4 : Int} {x5 : Int} {P : am_H → Prop} (H : (h 1 0 ≤ x5 → P h) ∧ (x5 < h 1 0 → (∃ a3 h2, am_cd 3 139 [.inr (.inr 17), .inl x5, .inl x1, .inl x4] h (some (.inl a3)) h2 ∧ ((a3 ≠ x2 → ((a3 ≠ x3 → ((am_ok (x5 + 1)) ∧ am_x (am_cd 3) 175 (am_qv P) 0 13 [some (.inr (.inr 32)), some (.inl x1), some (.inl x2), some (.inl x3), some (.inl x4), some (.inl (x5 + 1)), none] [] (am_up (am_up h2 32 2 (am_or (h2 32 2) 0)) 32 3 (am_or (h2 32 3) 0)))) ∧ (a3 = x3 → ((am_ok (x5 + 1)) ∧ am_x (am_cd 3) 175 (am_qv P) 0 13 [some (.inr (.inr 32)), some (.inl x1), some (.inl x2), some (.inl x3), some (.inl x4), some (.inl (x5 + 1)), none] [] (am_up (am_up h2 32 2 (am_or (h2 32 2) 0)) 32 3 (am_or (h2 32 3) (am_shl 1 x5))))))) ∧ (a3 = x2 → ((a3 ≠ x3 → ((am_ok (x5 + 1)) ∧ am_x (am_cd 3) 175 (am_qv P) 0 13 [some (.inr (.inr 32)), some (.inl x1), some (.inl x2), some (.inl x3), some (.inl x4), some (.inl (x5 + 1)), none] [] (am_up (am_up h2 32 2 (am_or (h2 32 2) (am_shl 1 x5))) 32 3 (am_or (h2 32 3) 0)))) ∧ (a3 = x3 → ((am_ok (x5 + 1)) ∧ am_x (am_cd 3) 175 (am_qv P) 0 13 [some (.inr (.inr 32)), some (.inl x1), some (.inl x2), some (.inl x3), some (.inl x4), some (.inl (x5 + 1)), none] [] (am_up (am_up h2 32 2 (am_or (h2 32 2) (am_shl 1 x5))) 32 3 (am_or (h2 32 3) (am_shl 1 x5))))))))))) : am_x (am_cd 3) 175 (am_qv P) 0 13 [some (.inr (.inr 32)), some (.inl x1), some (.inl x2), some (.inl x3), some (.inl x4), some (.inl x5), none] [] h := by
  refine x_iload (q175c0 8 rfl) rfl ?_
  refine x_aload_n (q175c0 9 rfl) rfl ?_
  refine x_getr (q175c0 10 rfl) fd32_0 ?_
  refine x_cvi (q175c0 11 rfl) rfl oc1 rfl (Nat.le_of_ble_eq_true rfl) (am_lifti (Nat.le_of_ble_eq_true rfl) (e_Land_size (r1 := h 1 0) (rfl) ?_))
  refine x_icmp_ge (q175c0 12 rfl) (fun c1 => ?_) (fun c1 => ?_)
  · replace H := H.1 c1
    exact x_ret (q175c0 48 rfl) H
  · replace H := H.2 c1
    refine x_aload_n (q175c0 13 rfl) rfl ?_
    refine x_getr (q175c0 14 rfl) fd32_1 ?_
    refine x_iload (q175c0 15 rfl) rfl ?_
    refine x_iload_n (q175c0 16 rfl) rfl ?_
    refine x_iload (q175c0 17 rfl) rfl ?_
    obtain ⟨a3, h2, w4, H⟩ := H
    refine x_cvi (q175c0 18 rfl) rfl oc17 rfl (Nat.le_of_ble_eq_true rfl) ⟨a3, h2, w4, ?_⟩
    refine x_istore (q175c0 19 rfl) ⟨Nat.le_of_ble_eq_true rfl, trivial⟩ ?_
    refine x_aload_n (q175c0 20 rfl) rfl ?_
    refine x_dup (q175c0 21 rfl) trivial ?_
    refine x_getf (q175c0 22 rfl) fd32_2 (rfl) ?_
    refine x_iload (q175c0 23 rfl) rfl ?_
    refine x_iload_n (q175c0 24 rfl) rfl ?_
    refine x_icmp_ne (q175c0 25 rfl) (fun c5 => ?_) (fun c5 => ?_)
    · replace H := H.1 c5
      refine x_iconst (q175c0 30 rfl) ?_
      refine x_ior (q175c0 31 rfl) ?_
      refine x_putf (q175c0 32 rfl) fd32_2 ?_
      refine x_aload_n (q175c0 33 rfl) rfl ?_
      refine x_dup (q175c0 34 rfl) trivial ?_
      refine x_getf (q175c0 35 rfl) fd32_3 (up_i (by decide) (rfl)) ?_
      refine x_iload (q175c0 36 rfl) rfl ?_
      refine x_iload_n (q175c0 37 rfl) rfl ?_
      refine x_icmp_ne (q175c0 38 rfl) (fun c6 => ?_) (fun c6 => ?_)
      · replace H := H.1 c6
        obtain ⟨s7, H⟩ := H
        refine x_iconst (q175c0 43 rfl) ?_
        refine x_ior (q175c0 44 rfl) ?_
        refine x_putf (q175c0 45 rfl) fd32_3 ?_
        refine x_iinc (q175c0 46 rfl) rfl ⟨Nat.le_of_ble_eq_true rfl, trivial⟩ s7 ?_
        refine x_goto (q175c0 47 rfl) ?_
        exact am_x_weak (ls' := [some (.inr (.inr 32)), some (.inl x1), some (.inl x2), some (.inl x3), some (.inl x4), some (.inl (x5 + 1)), some (.inl a3)]) (lle_c (lle_c (lle_c (lle_c (lle_c (lle_c (lle_d trivial (lle_nil)))))))) H
      · replace H := H.2 c6
        obtain ⟨s8, H⟩ := H
        refine x_iconst (q175c0 39 rfl) ?_
        refine x_iload (q175c0 40 rfl) rfl ?_
        refine x_ishl (q175c0 41 rfl) ?_
        refine x_goto (q175c0 42 rfl) ?_
        refine x_ior (q175c0 44 rfl) ?_
        refine x_putf (q175c0 45 rfl) fd32_3 ?_
        refine x_iinc (q175c0 46 rfl) rfl ⟨Nat.le_of_ble_eq_true rfl, trivial⟩ s8 ?_
        refine x_goto (q175c0 47 rfl) ?_
        exact am_x_weak (ls' := [some (.inr (.inr 32)), some (.inl x1), some (.inl x2), some (.inl x3), some (.inl x4), some (.inl (x5 + 1)), some (.inl a3)]) (lle_c (lle_c (lle_c (lle_c (lle_c (lle_c (lle_d trivial (lle_nil)))))))) H
    · replace H := H.2 c5
      refine x_iconst (q175c0 26 rfl) ?_
      refine x_iload (q175c0 27 rfl) rfl ?_
      refine x_ishl (q175c0 28 rfl) ?_
      refine x_goto (q175c0 29 rfl) ?_
      refine x_ior (q175c0 31 rfl) ?_
      refine x_putf (q175c0 32 rfl) fd32_2 ?_
      refine x_aload_n (q175c0 33 rfl) rfl ?_
      refine x_dup (q175c0 34 rfl) trivial ?_
      refine x_getf (q175c0 35 rfl) fd32_3 (up_i (by decide) (rfl)) ?_
      refine x_iload (q175c0 36 rfl) rfl ?_
      refine x_iload_n (q175c0 37 rfl) rfl ?_
      refine x_icmp_ne (q175c0 38 rfl) (fun c9 => ?_) (fun c9 => ?_)
      · replace H := H.1 c9
        obtain ⟨s10, H⟩ := H
        refine x_iconst (q175c0 43 rfl) ?_
        refine x_ior (q175c0 44 rfl) ?_
        refine x_putf (q175c0 45 rfl) fd32_3 ?_
        refine x_iinc (q175c0 46 rfl) rfl ⟨Nat.le_of_ble_eq_true rfl, trivial⟩ s10 ?_
        refine x_goto (q175c0 47 rfl) ?_
        exact am_x_weak (ls' := [some (.inr (.inr 32)), some (.inl x1), some (.inl x2), some (.inl x3), some (.inl x4), some (.inl (x5 + 1)), some (.inl a3)]) (lle_c (lle_c (lle_c (lle_c (lle_c (lle_c (lle_d trivial (lle_nil)))))))) H
      · replace H := H.2 c9
        obtain ⟨s11, H⟩ := H
        refine x_iconst (q175c0 39 rfl) ?_
        refine x_iload (q175c0 40 rfl) rfl ?_
        refine x_ishl (q175c0 41 rfl) ?_
        refine x_goto (q175c0 42 rfl) ?_
        refine x_ior (q175c0 44 rfl) ?_
        refine x_putf (q175c0 45 rfl) fd32_3 ?_
        refine x_iinc (q175c0 46 rfl) rfl ⟨Nat.le_of_ble_eq_true rfl, trivial⟩ s11 ?_
        refine x_goto (q175c0 47 rfl) ?_
        exact am_x_weak (ls' := [some (.inr (.inr 32)), some (.inl x1), some (.inl x2), some (.inl x3), some (.inl x4), some (.inl (x5 + 1)), some (.inl a3)]) (lle_c (lle_c (lle_c (lle_c (lle_c (lle_c (lle_d trivial (lle_nil)))))))) H
theorem e_Dialects_listenTo {h : am_H} {x1 : Int} {x2 : Int} {P : am_H → Prop} (H : am_x (am_cd 3) 176 (am_qv P) 0 2 [some (.inr (.inr 33)), some (.inl x1), some (.inl x2), some (.inl 0)] [] h) : ∃ h1, am_cd 4 176 [.inr (.inr 33), .inl x1, .inl x2] h none h1 ∧ P h1 := by
  refine am_outv (d := 3) (ls := [some (.inr (.inr 33)), some (.inl x1), some (.inl x2), none]) rfl ab176 ml176 (Nat.le_of_ble_eq_true rfl) np176 rfl ?_
  refine x_iconst (q176c0 0 rfl) ?_
  refine x_istore_n (q176c0 1 rfl) ⟨Nat.le_of_ble_eq_true rfl, trivial⟩ ?_
  exact H
theorem g_Dialects_listenTo_2 {h : am_H} {x1 : Int} {x2 : Int} {x3 : Int} {P : am_H → Prop} (H : (6 ≤ x3 → P h) ∧ (x3 < 6 → ((am_ok (x1 * 6) ∧ am_ok (x1 * 6 + x3)) ∧ (∃ a5 h4, am_cd 3 139 [.inr (.inr 17), .inl x1, .inl x3, .inl x2] h (some (.inl a5)) h4 ∧ (((0 ≤ x1 * 6 + x3 ∧ x1 * 6 + x3 < 72) ∧ am_ok (x3 + 1)) ∧ am_x (am_cd 3) 176 (am_qv P) 0 2 [some (.inr (.inr 33)), some (.inl x1), some (.inl x2), some (.inl (x3 + 1))] [] (am_up h4 34 (6 * x1 + x3) a5)))))) : am_x (am_cd 3) 176 (am_qv P) 0 2 [some (.inr (.inr 33)), some (.inl x1), some (.inl x2), some (.inl x3)] [] h := by
  refine x_iload_n (q176c0 2 rfl) rfl ?_
  refine x_bipush (q176c0 3 rfl) ?_
  refine x_icmp_ge (q176c0 4 rfl) (fun c1 => ?_) (fun c1 => ?_)
  · replace H := H.1 c1
    exact x_ret (q176c0 21 rfl) H
  · replace H := H.2 c1
    obtain ⟨⟨s2, s3⟩, H⟩ := H
    refine x_aload_n (q176c0 5 rfl) rfl ?_
    refine x_getr (q176c0 6 rfl) fd33_3 ?_
    refine x_iload_n (q176c0 7 rfl) rfl ?_
    refine x_bipush (q176c0 8 rfl) ?_
    refine x_imul (q176c0 9 rfl) s2 ?_
    refine x_iload_n (q176c0 10 rfl) rfl ?_
    refine x_iadd (q176c0 11 rfl) s3 ?_
    refine x_aload_n (q176c0 12 rfl) rfl ?_
    refine x_getr (q176c0 13 rfl) fd33_2 ?_
    refine x_iload_n (q176c0 14 rfl) rfl ?_
    refine x_iload_n (q176c0 15 rfl) rfl ?_
    refine x_iload_n (q176c0 16 rfl) rfl ?_
    obtain ⟨a5, h4, w6, H⟩ := H
    refine x_cvi (q176c0 17 rfl) rfl oc17 rfl (Nat.le_of_ble_eq_true rfl) ⟨a5, h4, w6, ?_⟩
    obtain ⟨⟨s7, s8⟩, H⟩ := H
    refine x_iastore (q176c0 18 rfl) (al34 _) rfl (Nat.le_of_ble_eq_true rfl) s7 (j := 6 * x1 + x3) (by omega) ?_
    refine x_iinc (q176c0 19 rfl) rfl ⟨Nat.le_of_ble_eq_true rfl, trivial⟩ s8 ?_
    refine x_goto (q176c0 20 rfl) ?_
    exact H
theorem e_Dialects_apart {h : am_H} {x1 : Int} {x2 : Int} {P : Int → am_H → Prop} (H : am_x (am_cd 3) 177 (am_qi P) 0 5 [some (.inr (.inr 33)), some (.inl x1), some (.inl x2), some (.inl 0), some (.inl 0), none, none] [] h) : ∃ a h1, am_cd 4 177 [.inr (.inr 33), .inl x1, .inl x2] h (some (.inl a)) h1 ∧ P a h1 := by
  refine am_outi (d := 3) (ls := [some (.inr (.inr 33)), some (.inl x1), some (.inl x2), none, none, none, none]) rfl ab177 ml177 (Nat.le_of_ble_eq_true rfl) np177 rfl ?_
  refine x_iconst (q177c0 0 rfl) ?_
  refine x_istore_n (q177c0 1 rfl) ⟨Nat.le_of_ble_eq_true rfl, trivial⟩ ?_
  refine x_iconst (q177c0 2 rfl) ?_
  refine x_istore (q177c0 3 rfl) ⟨Nat.le_of_ble_eq_true rfl, trivial⟩ ?_
  exact H
theorem g_Dialects_apart_5 {h : am_H} {x1 : Int} {x2 : Int} {x3 : Int} {x4 : Int} {P : Int → am_H → Prop} (H : (6 ≤ x4 → P x3 h) ∧ (x4 < 6 → ((am_ok (x1 * 6) ∧ am_ok (x1 * 6 + x4) ∧ (0 ≤ x1 * 6 + x4 ∧ x1 * 6 + x4 < 72) ∧ am_ok (x2 * 6) ∧ am_ok (x2 * 6 + x4) ∧ (0 ≤ x2 * 6 + x4 ∧ x2 * 6 + x4 < 72)) ∧ ((h 34 (6 * x1 + x4) = (-1) → ((am_ok (x4 + 1)) ∧ am_x (am_cd 3) 177 (am_qi P) 0 5 [some (.inr (.inr 33)), some (.inl x1), some (.inl x2), some (.inl x3), some (.inl (x4 + 1)), none, none] [] h)) ∧ (h 34 (6 * x1 + x4) ≠ (-1) → ((h 34 (6 * x2 + x4) = (-1) → ((am_ok (x4 + 1)) ∧ am_x (am_cd 3) 177 (am_qi P) 0 5 [some (.inr (.inr 33)), some (.inl x1), some (.inl x2), some (.inl x3), some (.inl (x4 + 1)), none, none] [] h)) ∧ (h 34 (6 * x2 + x4) ≠ (-1) → (∃ a13 h12, am_cd 3 144 [.inr (.inr 11), .inl (h 34 (6 * x1 + x4)), .inl (h 34 (6 * x2 + x4))] h (some (.inl a13)) h12 ∧ ((am_ok (x3 + a13) ∧ am_ok (x4 + 1)) ∧ am_x (am_cd 3) 177 (am_qi P) 0 5 [some (.inr (.inr 33)), some (.inl x1), some (.inl x2), some (.inl (x3 + a13)), some (.inl (x4 + 1)), none, none] [] h12))))))))) : am_x (am_cd 3) 177 (am_qi P) 0 5 [some (.inr (.inr 33)), some (.inl x1), some (.inl x2), some (.inl x3), some (.inl x4), none, none] [] h := by
  refine x_iload (q177c0 4 rfl) rfl ?_
  refine x_bipush (q177c0 5 rfl) ?_
  refine x_icmp_ge (q177c0 6 rfl) (fun c1 => ?_) (fun c1 => ?_)
  · replace H := H.1 c1
    refine x_iload_n (q177c0 41 rfl) rfl ?_
    exact x_ireti (q177c0 42 rfl) zb177 H
  · replace H := H.2 c1
    obtain ⟨⟨s2, s3, s4, s5, s6, s7⟩, H⟩ := H
    refine x_aload_n (q177c0 7 rfl) rfl ?_
    refine x_getr (q177c0 8 rfl) fd33_3 ?_
    refine x_iload_n (q177c0 9 rfl) rfl ?_
    refine x_bipush (q177c0 10 rfl) ?_
    refine x_imul (q177c0 11 rfl) s2 ?_
    refine x_iload (q177c0 12 rfl) rfl ?_
    refine x_iadd (q177c0 13 rfl) s3 ?_
    refine x_iaload (q177c0 14 rfl) (al34 _) rfl (ag_l (j1 := 6 * x1 + x4) rfl (by omega) (rfl)) s4 ?_
    refine x_istore (q177c0 15 rfl) ⟨Nat.le_of_ble_eq_true rfl, trivial⟩ ?_
    refine x_aload_n (q177c0 16 rfl) rfl ?_
    refine x_getr (q177c0 17 rfl) fd33_3 ?_
    refine x_iload_n (q177c0 18 rfl) rfl ?_
    refine x_bipush (q177c0 19 rfl) ?_
    refine x_imul (q177c0 20 rfl) s5 ?_
    refine x_iload (q177c0 21 rfl) rfl ?_
    refine x_iadd (q177c0 22 rfl) s6 ?_
    refine x_iaload (q177c0 23 rfl) (al34 _) rfl (ag_l (j1 := 6 * x2 + x4) rfl (by omega) (rfl)) s7 ?_
    refine x_istore (q177c0 24 rfl) ⟨Nat.le_of_ble_eq_true rfl, trivial⟩ ?_
    refine x_iload (q177c0 25 rfl) rfl ?_
    refine x_iconst (q177c0 26 rfl) ?_
    refine x_icmp_eq (q177c0 27 rfl) (fun c8 => ?_) (fun c8 => ?_)
    · replace H := H.1 c8
      obtain ⟨s9, H⟩ := H
      refine x_iinc (q177c0 39 rfl) rfl ⟨Nat.le_of_ble_eq_true rfl, trivial⟩ s9 ?_
      refine x_goto (q177c0 40 rfl) ?_
      exact am_x_weak (ls' := [some (.inr (.inr 33)), some (.inl x1), some (.inl x2), some (.inl x3), some (.inl (x4 + 1)), some (.inl (h 34 (6 * x1 + x4))), some (.inl (h 34 (6 * x2 + x4)))]) (lle_c (lle_c (lle_c (lle_c (lle_c (lle_d trivial (lle_d trivial (lle_nil)))))))) H
    · replace H := H.2 c8
      refine x_iload (q177c0 28 rfl) rfl ?_
      refine x_iconst (q177c0 29 rfl) ?_
      refine x_icmp_eq (q177c0 30 rfl) (fun c10 => ?_) (fun c10 => ?_)
      · replace H := H.1 c10
        obtain ⟨s11, H⟩ := H
        refine x_iinc (q177c0 39 rfl) rfl ⟨Nat.le_of_ble_eq_true rfl, trivial⟩ s11 ?_
        refine x_goto (q177c0 40 rfl) ?_
        exact am_x_weak (ls' := [some (.inr (.inr 33)), some (.inl x1), some (.inl x2), some (.inl x3), some (.inl (x4 + 1)), some (.inl (h 34 (6 * x1 + x4))), some (.inl (h 34 (6 * x2 + x4)))]) (lle_c (lle_c (lle_c (lle_c (lle_c (lle_d trivial (lle_d trivial (lle_nil)))))))) H
      · replace H := H.2 c10
        refine x_iload_n (q177c0 31 rfl) rfl ?_
        refine x_aload_n (q177c0 32 rfl) rfl ?_
        refine x_getr (q177c0 33 rfl) fd33_1 ?_
        refine x_iload (q177c0 34 rfl) rfl ?_
        refine x_iload (q177c0 35 rfl) rfl ?_
        obtain ⟨a13, h12, w14, H⟩ := H
        refine x_cvi (q177c0 36 rfl) rfl oc11 rfl (Nat.le_of_ble_eq_true rfl) ⟨a13, h12, w14, ?_⟩
        obtain ⟨⟨s15, s16⟩, H⟩ := H
        refine x_iadd (q177c0 37 rfl) s15 ?_
        refine x_istore_n (q177c0 38 rfl) ⟨Nat.le_of_ble_eq_true rfl, trivial⟩ ?_
        refine x_iinc (q177c0 39 rfl) rfl ⟨Nat.le_of_ble_eq_true rfl, trivial⟩ s16 ?_
        refine x_goto (q177c0 40 rfl) ?_
        exact am_x_weak (ls' := [some (.inr (.inr 33)), some (.inl x1), some (.inl x2), some (.inl (x3 + a13)), some (.inl (x4 + 1)), some (.inl (h 34 (6 * x1 + x4))), some (.inl (h 34 (6 * x2 + x4)))]) (lle_c (lle_c (lle_c (lle_c (lle_c (lle_d trivial (lle_d trivial (lle_nil)))))))) H
theorem e_Forms_findRead {h : am_H}  {P : Int → am_H → Prop} (H : ∃ a2 h1, am_cd 3 143 [.inr (.inr 11), .inr (.inr 14), .inl (h 11 3)] h (some (.inl a2)) h1 ∧ P a2 h1) : ∃ a h1, am_cd 4 178 [.inr (.inr 11)] h (some (.inl a)) h1 ∧ P a h1 := by
  refine am_outi (d := 3) (ls := [some (.inr (.inr 11))]) rfl ab178 ml178 (Nat.le_of_ble_eq_true rfl) np178 rfl ?_
  refine x_aload_n (q178c0 0 rfl) rfl ?_
  refine x_aload_n (q178c0 1 rfl) rfl ?_
  refine x_getr (q178c0 2 rfl) fd11_4 ?_
  refine x_aload_n (q178c0 3 rfl) rfl ?_
  refine x_getf (q178c0 4 rfl) fd11_3 (rfl) ?_
  obtain ⟨a2, h1, w3, H⟩ := H
  refine x_cvi (q178c0 5 rfl) rfl oc11 rfl (Nat.le_of_ble_eq_true rfl) ⟨a2, h1, w3, ?_⟩
  exact x_ireti (q178c0 6 rfl) zb178 H
theorem e_Land_roads {h : am_H}  {P : Int → am_H → Prop} (H : am_x (am_cd 3) 179 (am_qi P) 0 4 [some (.inr (.inr 1)), some (.inl 0), some (.inl 0)] [] h) : ∃ a h1, am_cd 4 179 [.inr (.inr 1)] h (some (.inl a)) h1 ∧ P a h1 := by
  refine am_outi (d := 3) (ls := [some (.inr (.inr 1)), none, none]) rfl ab179 ml179 (Nat.le_of_ble_eq_true rfl) np179 rfl ?_
  refine x_iconst (q179c0 0 rfl) ?_
  refine x_istore_n (q179c0 1 rfl) ⟨Nat.le_of_ble_eq_true rfl, trivial⟩ ?_
  refine x_iconst (q179c0 2 rfl) ?_
  refine x_istore_n (q179c0 3 rfl) ⟨Nat.le_of_ble_eq_true rfl, trivial⟩ ?_
  exact H
theorem g_Land_roads_4 {h : am_H} {x1 : Int} {x2 : Int} {P : Int → am_H → Prop} (H : (h 1 0 ≤ x2 → ((0 ≤ x1) ∧ P (x1 / 2) h)) ∧ (x2 < h 1 0 → (∃ a4 h3, am_cd 3 145 [.inr (.inr 1), .inl x2] h (some (.inl a4)) h3 ∧ (∃ a7 h6, am_cd 3 86 [.inl a4] h3 (some (.inl a7)) h6 ∧ ((am_ok (x1 + a7) ∧ am_ok (x2 + 1)) ∧ am_x (am_cd 3) 179 (am_qi P) 0 4 [some (.inr (.inr 1)), some (.inl (x1 + a7)), some (.inl (x2 + 1))] [] h6))))) : am_x (am_cd 3) 179 (am_qi P) 0 4 [some (.inr (.inr 1)), some (.inl x1), some (.inl x2)] [] h := by
  refine x_iload_n (q179c0 4 rfl) rfl ?_
  refine x_aload_n (q179c0 5 rfl) rfl ?_
  refine x_getf (q179c0 6 rfl) fd1_0 (rfl) ?_
  refine x_icmp_ge (q179c0 7 rfl) (fun c1 => ?_) (fun c1 => ?_)
  · replace H := H.1 c1
    obtain ⟨s2, H⟩ := H
    refine x_iload_n (q179c0 17 rfl) rfl ?_
    refine x_iconst (q179c0 18 rfl) ?_
    refine x_idiv (q179c0 19 rfl) ⟨by decide, s2⟩ ?_
    exact x_ireti (q179c0 20 rfl) zb179 H
  · replace H := H.2 c1
    refine x_iload_n (q179c0 8 rfl) rfl ?_
    refine x_aload_n (q179c0 9 rfl) rfl ?_
    refine x_iload_n (q179c0 10 rfl) rfl ?_
    obtain ⟨a4, h3, w5, H⟩ := H
    refine x_cvi (q179c0 11 rfl) rfl oc1 rfl (Nat.le_of_ble_eq_true rfl) ⟨a4, h3, w5, ?_⟩
    obtain ⟨a7, h6, w8, H⟩ := H
    refine x_csi (q179c0 12 rfl) rfl rfl rfl (Nat.le_of_ble_eq_true rfl) ⟨a7, h6, w8, ?_⟩
    obtain ⟨⟨s9, s10⟩, H⟩ := H
    refine x_iadd (q179c0 13 rfl) s9 ?_
    refine x_istore_n (q179c0 14 rfl) ⟨Nat.le_of_ble_eq_true rfl, trivial⟩ ?_
    refine x_iinc (q179c0 15 rfl) rfl ⟨Nat.le_of_ble_eq_true rfl, trivial⟩ s10 ?_
    refine x_goto (q179c0 16 rfl) ?_
    exact H
theorem e_Land_walkFrom {h : am_H} {x1 : Int} {P : am_H → Prop} (H : am_x (am_cd 3) 180 (am_qv P) 0 2 [some (.inr (.inr 1)), some (.inl x1), some (.inl 0), none, none] [] h) : ∃ h1, am_cd 4 180 [.inr (.inr 1), .inl x1] h none h1 ∧ P h1 := by
  refine am_outv (d := 3) (ls := [some (.inr (.inr 1)), some (.inl x1), none, none, none]) rfl ab180 ml180 (Nat.le_of_ble_eq_true rfl) np180 rfl ?_
  refine x_iconst (q180c0 0 rfl) ?_
  refine x_istore_n (q180c0 1 rfl) ⟨Nat.le_of_ble_eq_true rfl, trivial⟩ ?_
  exact H
theorem g_Land_walkFrom_2 {h : am_H} {x1 : Int} {x2 : Int} {P : am_H → Prop} (H : (h 1 0 ≤ x2 → ((am_ok (am_shl 1 (h 1 0) - 1)) ∧ am_x (am_cd 3) 180 (am_qv P) 0 43 [some (.inr (.inr 1)), none, some (.inl (am_shl 1 (h 1 0) - 1)), some (.inl 0), none] [] h)) ∧ (x2 < h 1 0 → ((am_and x1 (am_shl 1 x2) = 0 → (((0 ≤ x2 ∧ x2 < 12) ∧ am_ok (x2 + 1)) ∧ am_x (am_cd 3) 180 (am_qv P) 0 2 [some (.inr (.inr 1)), some (.inl x1), some (.inl (x2 + 1)), none, none] [] (am_up h 6 x2 1000000))) ∧ (am_and x1 (am_shl 1 x2) ≠ 0 → (((0 ≤ x2 ∧ x2 < 12) ∧ am_ok (x2 + 1)) ∧ am_x (am_cd 3) 180 (am_qv P) 0 2 [some (.inr (.inr 1)), some (.inl x1), some (.inl (x2 + 1)), none, none] [] (am_up h 6 x2 0)))))) : am_x (am_cd 3) 180 (am_qv P) 0 2 [some (.inr (.inr 1)), some (.inl x1), some (.inl x2), none, none] [] h := by
  refine x_iload_n (q180c0 2 rfl) rfl ?_
  refine x_aload_n (q180c0 3 rfl) rfl ?_
  refine x_getf (q180c0 4 rfl) fd1_0 (rfl) ?_
  refine x_icmp_ge (q180c0 5 rfl) (fun c1 => ?_) (fun c1 => ?_)
  · replace H := H.1 c1
    refine x_aload_n (q180c0 21 rfl) rfl ?_
    refine x_cvi (q180c0 22 rfl) rfl oc1 rfl (Nat.le_of_ble_eq_true rfl) (am_lifti (Nat.le_of_ble_eq_true rfl) (e_Land_all (r1 := h 1 0) (rfl) ?_))
    obtain ⟨s2, H⟩ := H
    refine ⟨s2, ?_⟩
    refine x_istore_n (q180c0 23 rfl) ⟨Nat.le_of_ble_eq_true rfl, trivial⟩ ?_
    refine x_iconst (q180c0 24 rfl) ?_
    refine x_istore_n (q180c0 25 rfl) ⟨Nat.le_of_ble_eq_true rfl, trivial⟩ ?_
    exact am_x_weak (ls' := [some (.inr (.inr 1)), some (.inl x1), some (.inl (am_shl 1 (h 1 0) - 1)), some (.inl 0), none]) (lle_c (lle_d trivial (lle_c (lle_c (lle_c (lle_nil)))))) H
  · replace H := H.2 c1
    refine x_aload_n (q180c0 6 rfl) rfl ?_
    refine x_getr (q180c0 7 rfl) fd1_5 ?_
    refine x_iload_n (q180c0 8 rfl) rfl ?_
    refine x_iload_n (q180c0 9 rfl) rfl ?_
    refine x_iconst (q180c0 10 rfl) ?_
    refine x_iload_n (q180c0 11 rfl) rfl ?_
    refine x_ishl (q180c0 12 rfl) ?_
    refine x_iand (q180c0 13 rfl) ?_
    refine x_if_eq (q180c0 14 rfl) (fun c3 => ?_) (fun c3 => ?_)
    · replace H := H.1 c3
      obtain ⟨⟨s4, s5⟩, H⟩ := H
      refine x_ldc (q180c0 17 rfl) ?_
      refine x_iastore (q180c0 18 rfl) (al6 _) rfl (Nat.le_of_ble_eq_true rfl) s4 (j := x2) rfl ?_
      refine x_iinc (q180c0 19 rfl) rfl ⟨Nat.le_of_ble_eq_true rfl, trivial⟩ s5 ?_
      refine x_goto (q180c0 20 rfl) ?_
      exact H
    · replace H := H.2 c3
      obtain ⟨⟨s6, s7⟩, H⟩ := H
      refine x_iconst (q180c0 15 rfl) ?_
      refine x_goto (q180c0 16 rfl) ?_
      refine x_iastore (q180c0 18 rfl) (al6 _) rfl (Nat.le_of_ble_eq_true rfl) s6 (j := x2) rfl ?_
      refine x_iinc (q180c0 19 rfl) rfl ⟨Nat.le_of_ble_eq_true rfl, trivial⟩ s7 ?_
      refine x_goto (q180c0 20 rfl) ?_
      exact H
theorem g_Land_walkFrom_43 {h : am_H} {x2 : Int} {x3 : Int} {P : am_H → Prop} (H : (h 1 0 ≤ x3 → P h) ∧ (x3 < h 1 0 → (∃ a3 h2, am_cd 3 48 [.inr (.inr 1), .inl x2] h (some (.inl a3)) h2 ∧ ((a3 ≠ (-1) → (∃ h6, am_cd 3 146 [.inr (.inr 1), .inl a3] h2 none h6 ∧ ((am_ok (x3 + 1)) ∧ am_x (am_cd 3) 180 (am_qv P) 0 43 [some (.inr (.inr 1)), none, some (.inl (am_and x2 (am_xor (am_shl 1 a3) (-1)))), some (.inl (x3 + 1)), none] [] h6))) ∧ (a3 = (-1) → P h2))))) : am_x (am_cd 3) 180 (am_qv P) 0 43 [some (.inr (.inr 1)), none, some (.inl x2), some (.inl x3), none] [] h := by
  refine x_iload_n (q180c0 26 rfl) rfl ?_
  refine x_aload_n (q180c0 27 rfl) rfl ?_
  refine x_getf (q180c0 28 rfl) fd1_0 (rfl) ?_
  refine x_icmp_ge (q180c0 29 rfl) (fun c1 => ?_) (fun c1 => ?_)
  · replace H := H.1 c1
    exact x_ret (q180c0 51 rfl) H
  · replace H := H.2 c1
    refine x_aload_n (q180c0 30 rfl) rfl ?_
    refine x_iload_n (q180c0 31 rfl) rfl ?_
    obtain ⟨a3, h2, w4, H⟩ := H
    refine x_cvi (q180c0 32 rfl) rfl oc1 rfl (Nat.le_of_ble_eq_true rfl) ⟨a3, h2, w4, ?_⟩
    refine x_istore (q180c0 33 rfl) ⟨Nat.le_of_ble_eq_true rfl, trivial⟩ ?_
    refine x_iload (q180c0 34 rfl) rfl ?_
    refine x_iconst (q180c0 35 rfl) ?_
    refine x_icmp_ne (q180c0 36 rfl) (fun c5 => ?_) (fun c5 => ?_)
    · replace H := H.1 c5
      refine x_iload_n (q180c0 38 rfl) rfl ?_
      refine x_iconst (q180c0 39 rfl) ?_
      refine x_iload (q180c0 40 rfl) rfl ?_
      refine x_ishl (q180c0 41 rfl) ?_
      refine x_iconst (q180c0 42 rfl) ?_
      refine x_ixor (q180c0 43 rfl) ?_
      refine x_iand (q180c0 44 rfl) ?_
      refine x_istore_n (q180c0 45 rfl) ⟨Nat.le_of_ble_eq_true rfl, trivial⟩ ?_
      refine x_aload_n (q180c0 46 rfl) rfl ?_
      refine x_iload (q180c0 47 rfl) rfl ?_
      obtain ⟨h6, w7, H⟩ := H
      refine x_cvv (q180c0 48 rfl) rfl oc1 rfl (Nat.le_of_ble_eq_true rfl) ⟨h6, w7, ?_⟩
      obtain ⟨s8, H⟩ := H
      refine x_iinc (q180c0 49 rfl) rfl ⟨Nat.le_of_ble_eq_true rfl, trivial⟩ s8 ?_
      refine x_goto (q180c0 50 rfl) ?_
      exact am_x_weak (ls' := [some (.inr (.inr 1)), none, some (.inl (am_and x2 (am_xor (am_shl 1 a3) (-1)))), some (.inl (x3 + 1)), some (.inl a3)]) (lle_c (lle_c (lle_c (lle_c (lle_d trivial (lle_nil)))))) H
    · replace H := H.2 c5
      exact x_ret (q180c0 37 rfl) H
theorem e_Spread_survey {h : am_H}  {P : am_H → Prop} (H : am_x (am_cd 3) 181 (am_qv P) 0 2 [some (.inr (.inr 44)), some (.inl 0)] [] h) : ∃ h1, am_cd 4 181 [.inr (.inr 44)] h none h1 ∧ P h1 := by
  refine am_outv (d := 3) (ls := [some (.inr (.inr 44)), none]) rfl ab181 ml181 (Nat.le_of_ble_eq_true rfl) np181 rfl ?_
  refine x_iconst (q181c0 0 rfl) ?_
  refine x_istore_n (q181c0 1 rfl) ⟨Nat.le_of_ble_eq_true rfl, trivial⟩ ?_
  exact H
theorem g_Spread_survey_2 {h : am_H} {x1 : Int} {P : am_H → Prop} (H : (h 1 0 ≤ x1 → P h) ∧ (x1 < h 1 0 → (∃ a3 h2, am_cd 3 145 [.inr (.inr 1), .inl x1] h (some (.inl a3)) h2 ∧ ((0 ≤ x1 ∧ x1 < 12) ∧ (∃ a7 h6, am_cd 3 44 [.inr (.inr 1), .inl a3] (am_up h2 45 x1 a3) (some (.inl a7)) h6 ∧ ((am_ok (x1 + 1)) ∧ am_x (am_cd 3) 181 (am_qv P) 0 2 [some (.inr (.inr 44)), some (.inl (x1 + 1))] [] (am_up h6 46 x1 a7))))))) : am_x (am_cd 3) 181 (am_qv P) 0 2 [some (.inr (.inr 44)), some (.inl x1)] [] h := by
  refine x_iload_n (q181c0 2 rfl) rfl ?_
  refine x_aload_n (q181c0 3 rfl) rfl ?_
  refine x_getr (q181c0 4 rfl) fd44_0 ?_
  refine x_cvi (q181c0 5 rfl) rfl oc1 rfl (Nat.le_of_ble_eq_true rfl) (am_lifti (Nat.le_of_ble_eq_true rfl) (e_Land_size (r1 := h 1 0) (rfl) ?_))
  refine x_icmp_ge (q181c0 6 rfl) (fun c1 => ?_) (fun c1 => ?_)
  · replace H := H.1 c1
    exact x_ret (q181c0 28 rfl) H
  · replace H := H.2 c1
    refine x_aload_n (q181c0 7 rfl) rfl ?_
    refine x_getr (q181c0 8 rfl) fd44_1 ?_
    refine x_iload_n (q181c0 9 rfl) rfl ?_
    refine x_aload_n (q181c0 10 rfl) rfl ?_
    refine x_getr (q181c0 11 rfl) fd44_0 ?_
    refine x_iload_n (q181c0 12 rfl) rfl ?_
    obtain ⟨a3, h2, w4, H⟩ := H
    refine x_cvi (q181c0 13 rfl) rfl oc1 rfl (Nat.le_of_ble_eq_true rfl) ⟨a3, h2, w4, ?_⟩
    obtain ⟨s5, H⟩ := H
    refine x_iastore (q181c0 14 rfl) (al45 _) rfl (Nat.le_of_ble_eq_true rfl) s5 (j := x1) rfl ?_
    refine x_aload_n (q181c0 15 rfl) rfl ?_
    refine x_getr (q181c0 16 rfl) fd44_2 ?_
    refine x_iload_n (q181c0 17 rfl) rfl ?_
    refine x_aload_n (q181c0 18 rfl) rfl ?_
    refine x_getr (q181c0 19 rfl) fd44_0 ?_
    refine x_aload_n (q181c0 20 rfl) rfl ?_
    refine x_getr (q181c0 21 rfl) fd44_1 ?_
    refine x_iload_n (q181c0 22 rfl) rfl ?_
    refine x_iaload (q181c0 23 rfl) (al45 _) rfl (ag_l rfl rfl (up_s rfl)) s5 ?_
    obtain ⟨a7, h6, w8, H⟩ := H
    refine x_cvi (q181c0 24 rfl) rfl oc1 rfl (Nat.le_of_ble_eq_true rfl) ⟨a7, h6, w8, ?_⟩
    obtain ⟨s9, H⟩ := H
    refine x_iastore (q181c0 25 rfl) (al46 _) rfl (Nat.le_of_ble_eq_true rfl) s5 (j := x1) rfl ?_
    refine x_iinc (q181c0 26 rfl) rfl ⟨Nat.le_of_ble_eq_true rfl, trivial⟩ s9 ?_
    refine x_goto (q181c0 27 rfl) ?_
    exact H
theorem e_Texts_readInto {h : am_H} {x1 : Int} {P : Int → am_H → Prop} (H : ∃ a2 h1, am_cd 3 149 [.inr (.inr 24)] h (some (.inl a2)) h1 ∧ ((a2 ≠ (-1) → P a2 (am_up h1 24 1 0)) ∧ (a2 = (-1) → (∃ h5, am_cd 3 150 [.inr (.inr 24), .inl x1] h1 none h5 ∧ P a2 (am_up h5 24 1 0))))) : ∃ a h1, am_cd 4 182 [.inr (.inr 24), .inl x1] h (some (.inl a)) h1 ∧ P a h1 := by
  refine am_outi (d := 3) (ls := [some (.inr (.inr 24)), some (.inl x1), none]) rfl ab182 ml182 (Nat.le_of_ble_eq_true rfl) np182 rfl ?_
  refine x_aload_n (q182c0 0 rfl) rfl ?_
  obtain ⟨a2, h1, w3, H⟩ := H
  refine x_cvi (q182c0 1 rfl) rfl oc24 rfl (Nat.le_of_ble_eq_true rfl) ⟨a2, h1, w3, ?_⟩
  refine x_istore_n (q182c0 2 rfl) ⟨Nat.le_of_ble_eq_true rfl, trivial⟩ ?_
  refine x_iload_n (q182c0 3 rfl) rfl ?_
  refine x_iconst (q182c0 4 rfl) ?_
  refine x_icmp_ne (q182c0 5 rfl) (fun c4 => ?_) (fun c4 => ?_)
  · replace H := H.1 c4
    refine x_aload_n (q182c0 9 rfl) rfl ?_
    refine x_iconst (q182c0 10 rfl) ?_
    refine x_putf (q182c0 11 rfl) fd24_1 ?_
    refine x_iload_n (q182c0 12 rfl) rfl ?_
    exact x_ireti (q182c0 13 rfl) zb182 H
  · replace H := H.2 c4
    refine x_aload_n (q182c0 6 rfl) rfl ?_
    refine x_iload_n (q182c0 7 rfl) rfl ?_
    obtain ⟨h5, w6, H⟩ := H
    refine x_cvv (q182c0 8 rfl) rfl oc24 rfl (Nat.le_of_ble_eq_true rfl) ⟨h5, w6, ?_⟩
    refine x_aload_n (q182c0 9 rfl) rfl ?_
    refine x_iconst (q182c0 10 rfl) ?_
    refine x_putf (q182c0 11 rfl) fd24_1 ?_
    refine x_iload_n (q182c0 12 rfl) rfl ?_
    exact x_ireti (q182c0 13 rfl) zb182 H
theorem e_Texts_turnedForm {h : am_H} {x1 : Int} {x2 : Int} {P : Int → am_H → Prop} (H : ∃ a2 h1, am_cd 3 151 [.inr (.inr 24), .inl x1, .inl x2] h (some (.inl a2)) h1 ∧ (∃ a5 h4, am_cd 3 143 [.inr (.inr 11), .inr (.inr 31), .inl a2] h1 (some (.inl a5)) h4 ∧ P a5 h4)) : ∃ a h1, am_cd 4 183 [.inr (.inr 24), .inl x1, .inl x2] h (some (.inl a)) h1 ∧ P a h1 := by
  refine am_outi (d := 3) (ls := [some (.inr (.inr 24)), some (.inl x1), some (.inl x2), none]) rfl ab183 ml183 (Nat.le_of_ble_eq_true rfl) np183 rfl ?_
  refine x_aload_n (q183c0 0 rfl) rfl ?_
  refine x_iload_n (q183c0 1 rfl) rfl ?_
  refine x_iload_n (q183c0 2 rfl) rfl ?_
  obtain ⟨a2, h1, w3, H⟩ := H
  refine x_cvi (q183c0 3 rfl) rfl oc24 rfl (Nat.le_of_ble_eq_true rfl) ⟨a2, h1, w3, ?_⟩
  refine x_istore_n (q183c0 4 rfl) ⟨Nat.le_of_ble_eq_true rfl, trivial⟩ ?_
  refine x_aload_n (q183c0 5 rfl) rfl ?_
  refine x_getr (q183c0 6 rfl) fd24_0 ?_
  refine x_aload_n (q183c0 7 rfl) rfl ?_
  refine x_getr (q183c0 8 rfl) fd24_9 ?_
  refine x_iload_n (q183c0 9 rfl) rfl ?_
  obtain ⟨a5, h4, w6, H⟩ := H
  refine x_cvi (q183c0 10 rfl) rfl oc11 rfl (Nat.le_of_ble_eq_true rfl) ⟨a5, h4, w6, ?_⟩
  exact x_ireti (q183c0 11 rfl) zb183 H
theorem e_At_far {h : am_H} {x1 : Int} {x2 : Int} {P : Int → am_H → Prop} (H : ((0 ≤ x1 ∧ x1 < h 11 0) → (((0 ≤ x2 ∧ x2 < h 11 0) → (∃ a4 h3, am_cd 3 144 [.inr (.inr 11), .inl x1, .inl x2] h (some (.inl a4)) h3 ∧ P a4 h3)) ∧ ((¬(0 ≤ x2 ∧ x2 < h 11 0)) → ((am_ok (h 0 13 + 1)) ∧ P (-100001) (am_up h 0 13 (h 0 13 + 1)))))) ∧ ((¬(0 ≤ x1 ∧ x1 < h 11 0)) → ((am_ok (h 0 13 + 1)) ∧ P (-100001) (am_up h 0 13 (h 0 13 + 1))))) : ∃ a h1, am_cd 4 184 [.inr (.inr 0), .inl x1, .inl x2] h (some (.inl a)) h1 ∧ P a h1 := by
  refine am_outi (d := 3) (ls := [some (.inr (.inr 0)), some (.inl x1), some (.inl x2)]) rfl ab184 ml184 (Nat.le_of_ble_eq_true rfl) np184 rfl ?_
  refine x_aload_n (q184c0 0 rfl) rfl ?_
  refine x_getr (q184c0 1 rfl) fd0_2 ?_
  refine x_iload_n (q184c0 2 rfl) rfl ?_
  refine x_cvi (q184c0 3 rfl) rfl oc11 rfl (Nat.le_of_ble_eq_true rfl) (am_lifti (Nat.le_of_ble_eq_true rfl) (e_Forms_has (r1 := h 11 0) (rfl) ?_))
  refine ⟨fun c1 => ?_, fun c1 => ?_⟩
  · replace H := H.1 c1
    refine x_if_eq_f (q184c0 4 rfl) (by decide) ?_
    refine x_aload_n (q184c0 5 rfl) rfl ?_
    refine x_getr (q184c0 6 rfl) fd0_2 ?_
    refine x_iload_n (q184c0 7 rfl) rfl ?_
    refine x_cvi (q184c0 8 rfl) rfl oc11 rfl (Nat.le_of_ble_eq_true rfl) (am_lifti (Nat.le_of_ble_eq_true rfl) (e_Forms_has (r1 := h 11 0) (rfl) ?_))
    refine ⟨fun c2 => ?_, fun c2 => ?_⟩
    · replace H := H.1 c2
      refine x_if_ne_t (q184c0 9 rfl) (by decide) ?_
      refine x_aload_n (q184c0 14 rfl) rfl ?_
      refine x_getr (q184c0 15 rfl) fd0_2 ?_
      refine x_iload_n (q184c0 16 rfl) rfl ?_
      refine x_iload_n (q184c0 17 rfl) rfl ?_
      obtain ⟨a4, h3, w5, H⟩ := H
      refine x_cvi (q184c0 18 rfl) rfl oc11 rfl (Nat.le_of_ble_eq_true rfl) ⟨a4, h3, w5, ?_⟩
      exact x_ireti (q184c0 19 rfl) zb184 H
    · replace H := H.2 c2
      refine x_if_ne_f (q184c0 9 rfl) (by decide) ?_
      refine x_aload_n (q184c0 10 rfl) rfl ?_
      refine x_ldc (q184c0 11 rfl) ?_
      refine x_cvi (q184c0 12 rfl) rfl oc0 rfl (Nat.le_of_ble_eq_true rfl) (am_lifti (Nat.le_of_ble_eq_true rfl) (e_At_finding (r1 := h 0 13) (rfl) ?_))
      obtain ⟨s6, H⟩ := H
      refine ⟨s6, ?_⟩
      exact x_ireti (q184c0 13 rfl) zb184 H
  · replace H := H.2 c1
    refine x_if_eq_t (q184c0 4 rfl) (by decide) ?_
    refine x_aload_n (q184c0 10 rfl) rfl ?_
    refine x_ldc (q184c0 11 rfl) ?_
    refine x_cvi (q184c0 12 rfl) rfl oc0 rfl (Nat.le_of_ble_eq_true rfl) (am_lifti (Nat.le_of_ble_eq_true rfl) (e_At_finding (r1 := h 0 13) (rfl) ?_))
    obtain ⟨s7, H⟩ := H
    refine ⟨s7, ?_⟩
    exact x_ireti (q184c0 13 rfl) zb184 H
theorem e_At_says {h : am_H} {x1 : Int} {x2 : Int} {x3 : Int} {P : Int → am_H → Prop} (H : ((0 ≤ x1 ∧ x1 < h 1 0) → (((0 ≤ x2 ∧ x2 < 6) → (((0 ≤ x3 ∧ x3 ≤ 999) → (∃ a5 h4, am_cd 3 139 [.inr (.inr 17), .inl x1, .inl x2, .inl x3] h (some (.inl a5)) h4 ∧ ((a5 ≠ (-1) → P a5 h4) ∧ (a5 = (-1) → ((am_ok (h4 0 13 + 1)) ∧ P (-100006) (am_up h4 0 13 (h4 0 13 + 1))))))) ∧ ((¬(0 ≤ x3 ∧ x3 ≤ 999)) → ((am_ok (h 0 13 + 1)) ∧ P (-100001) (am_up h 0 13 (h 0 13 + 1)))))) ∧ ((¬(0 ≤ x2 ∧ x2 < 6)) → ((am_ok (h 0 13 + 1)) ∧ P (-100001) (am_up h 0 13 (h 0 13 + 1)))))) ∧ ((¬(0 ≤ x1 ∧ x1 < h 1 0)) → ((am_ok (h 0 13 + 1)) ∧ P (-100001) (am_up h 0 13 (h 0 13 + 1))))) : ∃ a h1, am_cd 4 185 [.inr (.inr 0), .inl x1, .inl x2, .inl x3] h (some (.inl a)) h1 ∧ P a h1 := by
  refine am_outi (d := 3) (ls := [some (.inr (.inr 0)), some (.inl x1), some (.inl x2), some (.inl x3), none]) rfl ab185 ml185 (Nat.le_of_ble_eq_true rfl) np185 rfl ?_
  refine x_aload_n (q185c0 0 rfl) rfl ?_
  refine x_getr (q185c0 1 rfl) fd0_0 ?_
  refine x_iload_n (q185c0 2 rfl) rfl ?_
  refine x_cvi (q185c0 3 rfl) rfl oc1 rfl (Nat.le_of_ble_eq_true rfl) (am_lifti (Nat.le_of_ble_eq_true rfl) (e_Land_has (r1 := h 1 0) (rfl) ?_))
  refine ⟨fun c1 => ?_, fun c1 => ?_⟩
  · replace H := H.1 c1
    refine x_if_eq_f (q185c0 4 rfl) (by decide) ?_
    refine x_iload_n (q185c0 5 rfl) rfl ?_
    refine x_csi (q185c0 6 rfl) rfl rfl rfl (Nat.le_of_ble_eq_true rfl) (am_lifti (Nat.le_of_ble_eq_true rfl) (e_At_isThing   ?_))
    refine ⟨fun c2 => ?_, fun c2 => ?_⟩
    · replace H := H.1 c2
      refine x_if_eq_f (q185c0 7 rfl) (by decide) ?_
      refine x_iload_n (q185c0 8 rfl) rfl ?_
      refine x_csi (q185c0 9 rfl) rfl rfl rfl (Nat.le_of_ble_eq_true rfl) (am_lifti (Nat.le_of_ble_eq_true rfl) (e_At_isDay   ?_))
      refine ⟨fun c3 => ?_, fun c3 => ?_⟩
      · replace H := H.1 c3
        refine x_if_ne_t (q185c0 10 rfl) (by decide) ?_
        refine x_aload_n (q185c0 15 rfl) rfl ?_
        refine x_getr (q185c0 16 rfl) fd0_3 ?_
        refine x_iload_n (q185c0 17 rfl) rfl ?_
        refine x_iload_n (q185c0 18 rfl) rfl ?_
        refine x_iload_n (q185c0 19 rfl) rfl ?_
        obtain ⟨a5, h4, w6, H⟩ := H
        refine x_cvi (q185c0 20 rfl) rfl oc17 rfl (Nat.le_of_ble_eq_true rfl) ⟨a5, h4, w6, ?_⟩
        refine x_istore (q185c0 21 rfl) ⟨Nat.le_of_ble_eq_true rfl, trivial⟩ ?_
        refine x_iload (q185c0 22 rfl) rfl ?_
        refine x_iconst (q185c0 23 rfl) ?_
        refine x_icmp_ne (q185c0 24 rfl) (fun c7 => ?_) (fun c7 => ?_)
        · replace H := H.1 c7
          refine x_iload (q185c0 29 rfl) rfl ?_
          exact x_ireti (q185c0 30 rfl) zb185 H
        · replace H := H.2 c7
          refine x_aload_n (q185c0 25 rfl) rfl ?_
          refine x_ldc (q185c0 26 rfl) ?_
          refine x_cvi (q185c0 27 rfl) rfl oc0 rfl (Nat.le_of_ble_eq_true rfl) (am_lifti (Nat.le_of_ble_eq_true rfl) (e_At_finding (r1 := h4 0 13) (rfl) ?_))
          obtain ⟨s8, H⟩ := H
          refine ⟨s8, ?_⟩
          refine x_goto (q185c0 28 rfl) ?_
          exact x_ireti (q185c0 30 rfl) zb185 H
      · replace H := H.2 c3
        refine x_if_ne_f (q185c0 10 rfl) (by decide) ?_
        refine x_aload_n (q185c0 11 rfl) rfl ?_
        refine x_ldc (q185c0 12 rfl) ?_
        refine x_cvi (q185c0 13 rfl) rfl oc0 rfl (Nat.le_of_ble_eq_true rfl) (am_lifti (Nat.le_of_ble_eq_true rfl) (e_At_finding (r1 := h 0 13) (rfl) ?_))
        obtain ⟨s9, H⟩ := H
        refine ⟨s9, ?_⟩
        exact x_ireti (q185c0 14 rfl) zb185 H
    · replace H := H.2 c2
      refine x_if_eq_t (q185c0 7 rfl) (by decide) ?_
      refine x_aload_n (q185c0 11 rfl) rfl ?_
      refine x_ldc (q185c0 12 rfl) ?_
      refine x_cvi (q185c0 13 rfl) rfl oc0 rfl (Nat.le_of_ble_eq_true rfl) (am_lifti (Nat.le_of_ble_eq_true rfl) (e_At_finding (r1 := h 0 13) (rfl) ?_))
      obtain ⟨s10, H⟩ := H
      refine ⟨s10, ?_⟩
      exact x_ireti (q185c0 14 rfl) zb185 H
  · replace H := H.2 c1
    refine x_if_eq_t (q185c0 4 rfl) (by decide) ?_
    refine x_aload_n (q185c0 11 rfl) rfl ?_
    refine x_ldc (q185c0 12 rfl) ?_
    refine x_cvi (q185c0 13 rfl) rfl oc0 rfl (Nat.le_of_ble_eq_true rfl) (am_lifti (Nat.le_of_ble_eq_true rfl) (e_At_finding (r1 := h 0 13) (rfl) ?_))
    obtain ⟨s11, H⟩ := H
    refine ⟨s11, ?_⟩
    exact x_ireti (q185c0 14 rfl) zb185 H
theorem e_At_weight {h : am_H} {x1 : Int} {x2 : Int} {x3 : Int} {x4 : Int} {P : Int → am_H → Prop} (H : ((0 ≤ x1 ∧ x1 < h 1 0) → (((0 ≤ x2 ∧ x2 < 6) → (((0 ≤ x3 ∧ x3 < h 11 0) → (((0 ≤ x4 ∧ x4 ≤ 999) → (∃ a6 h5, am_cd 3 138 [.inr (.inr 17), .inl x1, .inl x2, .inl x3, .inl x4] h (some (.inl a6)) h5 ∧ P a6 h5)) ∧ ((¬(0 ≤ x4 ∧ x4 ≤ 999)) → ((am_ok (h 0 13 + 1)) ∧ P (-100001) (am_up h 0 13 (h 0 13 + 1)))))) ∧ ((¬(0 ≤ x3 ∧ x3 < h 11 0)) → ((am_ok (h 0 13 + 1)) ∧ P (-100001) (am_up h 0 13 (h 0 13 + 1)))))) ∧ ((¬(0 ≤ x2 ∧ x2 < 6)) → ((am_ok (h 0 13 + 1)) ∧ P (-100001) (am_up h 0 13 (h 0 13 + 1)))))) ∧ ((¬(0 ≤ x1 ∧ x1 < h 1 0)) → ((am_ok (h 0 13 + 1)) ∧ P (-100001) (am_up h 0 13 (h 0 13 + 1))))) : ∃ a h1, am_cd 4 186 [.inr (.inr 0), .inl x1, .inl x2, .inl x3, .inl x4] h (some (.inl a)) h1 ∧ P a h1 := by
  refine am_outi (d := 3) (ls := [some (.inr (.inr 0)), some (.inl x1), some (.inl x2), some (.inl x3), some (.inl x4)]) rfl ab186 ml186 (Nat.le_of_ble_eq_true rfl) np186 rfl ?_
  refine x_aload_n (q186c0 0 rfl) rfl ?_
  refine x_getr (q186c0 1 rfl) fd0_0 ?_
  refine x_iload_n (q186c0 2 rfl) rfl ?_
  refine x_cvi (q186c0 3 rfl) rfl oc1 rfl (Nat.le_of_ble_eq_true rfl) (am_lifti (Nat.le_of_ble_eq_true rfl) (e_Land_has (r1 := h 1 0) (rfl) ?_))
  refine ⟨fun c1 => ?_, fun c1 => ?_⟩
  · replace H := H.1 c1
    refine x_if_eq_f (q186c0 4 rfl) (by decide) ?_
    refine x_iload_n (q186c0 5 rfl) rfl ?_
    refine x_csi (q186c0 6 rfl) rfl rfl rfl (Nat.le_of_ble_eq_true rfl) (am_lifti (Nat.le_of_ble_eq_true rfl) (e_At_isThing   ?_))
    refine ⟨fun c2 => ?_, fun c2 => ?_⟩
    · replace H := H.1 c2
      refine x_if_eq_f (q186c0 7 rfl) (by decide) ?_
      refine x_aload_n (q186c0 8 rfl) rfl ?_
      refine x_getr (q186c0 9 rfl) fd0_2 ?_
      refine x_iload_n (q186c0 10 rfl) rfl ?_
      refine x_cvi (q186c0 11 rfl) rfl oc11 rfl (Nat.le_of_ble_eq_true rfl) (am_lifti (Nat.le_of_ble_eq_true rfl) (e_Forms_has (r1 := h 11 0) (rfl) ?_))
      refine ⟨fun c3 => ?_, fun c3 => ?_⟩
      · replace H := H.1 c3
        refine x_if_eq_f (q186c0 12 rfl) (by decide) ?_
        refine x_iload (q186c0 13 rfl) rfl ?_
        refine x_csi (q186c0 14 rfl) rfl rfl rfl (Nat.le_of_ble_eq_true rfl) (am_lifti (Nat.le_of_ble_eq_true rfl) (e_At_isDay   ?_))
        refine ⟨fun c4 => ?_, fun c4 => ?_⟩
        · replace H := H.1 c4
          refine x_if_ne_t (q186c0 15 rfl) (by decide) ?_
          refine x_aload_n (q186c0 20 rfl) rfl ?_
          refine x_getr (q186c0 21 rfl) fd0_3 ?_
          refine x_iload_n (q186c0 22 rfl) rfl ?_
          refine x_iload_n (q186c0 23 rfl) rfl ?_
          refine x_iload_n (q186c0 24 rfl) rfl ?_
          refine x_iload (q186c0 25 rfl) rfl ?_
          obtain ⟨a6, h5, w7, H⟩ := H
          refine x_cvi (q186c0 26 rfl) rfl oc17 rfl (Nat.le_of_ble_eq_true rfl) ⟨a6, h5, w7, ?_⟩
          exact x_ireti (q186c0 27 rfl) zb186 H
        · replace H := H.2 c4
          refine x_if_ne_f (q186c0 15 rfl) (by decide) ?_
          refine x_aload_n (q186c0 16 rfl) rfl ?_
          refine x_ldc (q186c0 17 rfl) ?_
          refine x_cvi (q186c0 18 rfl) rfl oc0 rfl (Nat.le_of_ble_eq_true rfl) (am_lifti (Nat.le_of_ble_eq_true rfl) (e_At_finding (r1 := h 0 13) (rfl) ?_))
          obtain ⟨s8, H⟩ := H
          refine ⟨s8, ?_⟩
          exact x_ireti (q186c0 19 rfl) zb186 H
      · replace H := H.2 c3
        refine x_if_eq_t (q186c0 12 rfl) (by decide) ?_
        refine x_aload_n (q186c0 16 rfl) rfl ?_
        refine x_ldc (q186c0 17 rfl) ?_
        refine x_cvi (q186c0 18 rfl) rfl oc0 rfl (Nat.le_of_ble_eq_true rfl) (am_lifti (Nat.le_of_ble_eq_true rfl) (e_At_finding (r1 := h 0 13) (rfl) ?_))
        obtain ⟨s9, H⟩ := H
        refine ⟨s9, ?_⟩
        exact x_ireti (q186c0 19 rfl) zb186 H
    · replace H := H.2 c2
      refine x_if_eq_t (q186c0 7 rfl) (by decide) ?_
      refine x_aload_n (q186c0 16 rfl) rfl ?_
      refine x_ldc (q186c0 17 rfl) ?_
      refine x_cvi (q186c0 18 rfl) rfl oc0 rfl (Nat.le_of_ble_eq_true rfl) (am_lifti (Nat.le_of_ble_eq_true rfl) (e_At_finding (r1 := h 0 13) (rfl) ?_))
      obtain ⟨s10, H⟩ := H
      refine ⟨s10, ?_⟩
      exact x_ireti (q186c0 19 rfl) zb186 H
  · replace H := H.2 c1
    refine x_if_eq_t (q186c0 4 rfl) (by decide) ?_
    refine x_aload_n (q186c0 16 rfl) rfl ?_
    refine x_ldc (q186c0 17 rfl) ?_
    refine x_cvi (q186c0 18 rfl) rfl oc0 rfl (Nat.le_of_ble_eq_true rfl) (am_lifti (Nat.le_of_ble_eq_true rfl) (e_At_finding (r1 := h 0 13) (rfl) ?_))
    obtain ⟨s11, H⟩ := H
    refine ⟨s11, ?_⟩
    exact x_ireti (q186c0 19 rfl) zb186 H
theorem e_At_becomes {h : am_H} {x1 : Int} {x2 : Int} {x3 : Int} {P : Int → am_H → Prop} (H : ((0 ≤ x1 ∧ x1 < h 11 0) → (((0 ≤ x2 ∧ x2 < 4) → (∃ a4 h3, am_cd 3 151 [.inr (.inr 24), .inl x1, .inl x2] h (some (.inl a4)) h3 ∧ ((x3 < (-1) → ((am_ok (h3 0 13 + 1)) ∧ P (-100001) (am_up h3 0 13 (h3 0 13 + 1)))) ∧ ((-1) ≤ x3 → ((x3 < a4 → ((0 ≤ x3 → ((0 ≤ x3 ∧ x3 < 8) ∧ P (h3 31 x3) h3)) ∧ (x3 < 0 → P a4 h3))) ∧ (a4 ≤ x3 → ((am_ok (h3 0 13 + 1)) ∧ P (-100001) (am_up h3 0 13 (h3 0 13 + 1))))))))) ∧ ((¬(0 ≤ x2 ∧ x2 < 4)) → ((am_ok (h 0 13 + 1)) ∧ P (-100001) (am_up h 0 13 (h 0 13 + 1)))))) ∧ ((¬(0 ≤ x1 ∧ x1 < h 11 0)) → ((am_ok (h 0 13 + 1)) ∧ P (-100001) (am_up h 0 13 (h 0 13 + 1))))) : ∃ a h1, am_cd 4 187 [.inr (.inr 0), .inl x1, .inl x2, .inl x3] h (some (.inl a)) h1 ∧ P a h1 := by
  refine am_outi (d := 3) (ls := [some (.inr (.inr 0)), some (.inl x1), some (.inl x2), some (.inl x3), none]) rfl ab187 ml187 (Nat.le_of_ble_eq_true rfl) np187 rfl ?_
  refine x_aload_n (q187c0 0 rfl) rfl ?_
  refine x_getr (q187c0 1 rfl) fd0_2 ?_
  refine x_iload_n (q187c0 2 rfl) rfl ?_
  refine x_cvi (q187c0 3 rfl) rfl oc11 rfl (Nat.le_of_ble_eq_true rfl) (am_lifti (Nat.le_of_ble_eq_true rfl) (e_Forms_has (r1 := h 11 0) (rfl) ?_))
  refine ⟨fun c1 => ?_, fun c1 => ?_⟩
  · replace H := H.1 c1
    refine x_if_eq_f (q187c0 4 rfl) (by decide) ?_
    refine x_iload_n (q187c0 5 rfl) rfl ?_
    refine x_csi (q187c0 6 rfl) rfl rfl rfl (Nat.le_of_ble_eq_true rfl) (am_lifti (Nat.le_of_ble_eq_true rfl) (e_Texts_isText   ?_))
    refine ⟨fun c2 => ?_, fun c2 => ?_⟩
    · replace H := H.1 c2
      refine x_if_ne_t (q187c0 7 rfl) (by decide) ?_
      refine x_aload_n (q187c0 12 rfl) rfl ?_
      refine x_getr (q187c0 13 rfl) fd0_4 ?_
      refine x_iload_n (q187c0 14 rfl) rfl ?_
      refine x_iload_n (q187c0 15 rfl) rfl ?_
      obtain ⟨a4, h3, w5, H⟩ := H
      refine x_cvi (q187c0 16 rfl) rfl oc24 rfl (Nat.le_of_ble_eq_true rfl) ⟨a4, h3, w5, ?_⟩
      refine x_istore (q187c0 17 rfl) ⟨Nat.le_of_ble_eq_true rfl, trivial⟩ ?_
      refine x_iload_n (q187c0 18 rfl) rfl ?_
      refine x_iconst (q187c0 19 rfl) ?_
      refine x_icmp_lt (q187c0 20 rfl) (fun c6 => ?_) (fun c6 => ?_)
      · replace H := H.1 c6
        refine x_aload_n (q187c0 24 rfl) rfl ?_
        refine x_ldc (q187c0 25 rfl) ?_
        refine x_cvi (q187c0 26 rfl) rfl oc0 rfl (Nat.le_of_ble_eq_true rfl) (am_lifti (Nat.le_of_ble_eq_true rfl) (e_At_finding (r1 := h3 0 13) (rfl) ?_))
        obtain ⟨s7, H⟩ := H
        refine ⟨s7, ?_⟩
        exact x_ireti (q187c0 27 rfl) zb187 H
      · replace H := H.2 c6
        refine x_iload_n (q187c0 21 rfl) rfl ?_
        refine x_iload (q187c0 22 rfl) rfl ?_
        refine x_icmp_lt (q187c0 23 rfl) (fun c8 => ?_) (fun c8 => ?_)
        · replace H := H.1 c8
          refine x_iload_n (q187c0 28 rfl) rfl ?_
          refine x_if_ge (q187c0 29 rfl) (fun c9 => ?_) (fun c9 => ?_)
          · replace H := H.1 c9
            refine x_aload_n (q187c0 32 rfl) rfl ?_
            refine x_getr (q187c0 33 rfl) fd0_4 ?_
            refine x_iload_n (q187c0 34 rfl) rfl ?_
            refine x_cvi (q187c0 35 rfl) rfl oc24 rfl (Nat.le_of_ble_eq_true rfl) (am_lifti (Nat.le_of_ble_eq_true rfl) (e_Texts_turnedSound (r1 := h3 31 x3) (rfl) ?_))
            obtain ⟨s10, H⟩ := H
            refine ⟨s10, ?_⟩
            exact x_ireti (q187c0 36 rfl) zb187 H
          · replace H := H.2 c9
            refine x_iload (q187c0 30 rfl) rfl ?_
            refine x_goto (q187c0 31 rfl) ?_
            exact x_ireti (q187c0 36 rfl) zb187 H
        · replace H := H.2 c8
          refine x_aload_n (q187c0 24 rfl) rfl ?_
          refine x_ldc (q187c0 25 rfl) ?_
          refine x_cvi (q187c0 26 rfl) rfl oc0 rfl (Nat.le_of_ble_eq_true rfl) (am_lifti (Nat.le_of_ble_eq_true rfl) (e_At_finding (r1 := h3 0 13) (rfl) ?_))
          obtain ⟨s11, H⟩ := H
          refine ⟨s11, ?_⟩
          exact x_ireti (q187c0 27 rfl) zb187 H
    · replace H := H.2 c2
      refine x_if_ne_f (q187c0 7 rfl) (by decide) ?_
      refine x_aload_n (q187c0 8 rfl) rfl ?_
      refine x_ldc (q187c0 9 rfl) ?_
      refine x_cvi (q187c0 10 rfl) rfl oc0 rfl (Nat.le_of_ble_eq_true rfl) (am_lifti (Nat.le_of_ble_eq_true rfl) (e_At_finding (r1 := h 0 13) (rfl) ?_))
      obtain ⟨s12, H⟩ := H
      refine ⟨s12, ?_⟩
      exact x_ireti (q187c0 11 rfl) zb187 H
  · replace H := H.2 c1
    refine x_if_eq_t (q187c0 4 rfl) (by decide) ?_
    refine x_aload_n (q187c0 8 rfl) rfl ?_
    refine x_ldc (q187c0 9 rfl) ?_
    refine x_cvi (q187c0 10 rfl) rfl oc0 rfl (Nat.le_of_ble_eq_true rfl) (am_lifti (Nat.le_of_ble_eq_true rfl) (e_At_finding (r1 := h 0 13) (rfl) ?_))
    obtain ⟨s13, H⟩ := H
    refine ⟨s13, ?_⟩
    exact x_ireti (q187c0 11 rfl) zb187 H
theorem e_At_sheet {h : am_H} {x1 : Int} {x2 : Int} {x3 : Int} {P : Int → am_H → Prop} (H : ((0 ≤ x1 ∧ x1 < 4) → (((x2 ≠ 0 ∧ x2 ≠ 8 ∧ x2 ≠ 16 ∧ x2 ≠ 32) → ((am_ok (h 0 13 + 1)) ∧ P (-100001) (am_up h 0 13 (h 0 13 + 1)))) ∧ ((¬(x2 ≠ 0 ∧ x2 ≠ 8 ∧ x2 ≠ 16 ∧ x2 ≠ 32)) → ((0 ≤ x3 → ((x3 ≤ 20 → (∃ a7 h6, am_cd 3 147 [.inr (.inr 47), .inl x1, .inl x2, .inl x3] h (some (.inl a7)) h6 ∧ P a7 h6)) ∧ (20 < x3 → ((am_ok (h 0 13 + 1)) ∧ P (-100001) (am_up h 0 13 (h 0 13 + 1)))))) ∧ (x3 < 0 → ((am_ok (h 0 13 + 1)) ∧ P (-100003) (am_up h 0 13 (h 0 13 + 1)))))))) ∧ ((¬(0 ≤ x1 ∧ x1 < 4)) → ((am_ok (h 0 13 + 1)) ∧ P (-100001) (am_up h 0 13 (h 0 13 + 1))))) : ∃ a h1, am_cd 4 188 [.inr (.inr 0), .inl x1, .inl x2, .inl x3] h (some (.inl a)) h1 ∧ P a h1 := by
  refine am_outi (d := 3) (ls := [some (.inr (.inr 0)), some (.inl x1), some (.inl x2), some (.inl x3)]) rfl ab188 ml188 (Nat.le_of_ble_eq_true rfl) np188 rfl ?_
  refine x_iload_n (q188c0 0 rfl) rfl ?_
  refine x_csi (q188c0 1 rfl) rfl rfl rfl (Nat.le_of_ble_eq_true rfl) (am_lifti (Nat.le_of_ble_eq_true rfl) (e_Sheets_isSheet   ?_))
  refine ⟨fun c1 => ?_, fun c1 => ?_⟩
  · replace H := H.1 c1
    refine x_if_eq_f (q188c0 2 rfl) (by decide) ?_
    refine x_iload_n (q188c0 3 rfl) rfl ?_
    refine x_csi (q188c0 4 rfl) rfl rfl rfl (Nat.le_of_ble_eq_true rfl) (am_lifti (Nat.le_of_ble_eq_true rfl) (e_Sheets_isWidth   ?_))
    refine ⟨fun c2 => ?_, fun c2 => ?_⟩
    · replace H := H.1 c2
      refine x_if_ne_f (q188c0 5 rfl) (by decide) ?_
      refine x_aload_n (q188c0 6 rfl) rfl ?_
      refine x_ldc (q188c0 7 rfl) ?_
      refine x_cvi (q188c0 8 rfl) rfl oc0 rfl (Nat.le_of_ble_eq_true rfl) (am_lifti (Nat.le_of_ble_eq_true rfl) (e_At_finding (r1 := h 0 13) (rfl) ?_))
      obtain ⟨s3, H⟩ := H
      refine ⟨s3, ?_⟩
      exact x_ireti (q188c0 9 rfl) zb188 H
    · replace H := H.2 c2
      refine x_if_ne_t (q188c0 5 rfl) (by decide) ?_
      refine x_iload_n (q188c0 10 rfl) rfl ?_
      refine x_if_ge (q188c0 11 rfl) (fun c4 => ?_) (fun c4 => ?_)
      · replace H := H.1 c4
        refine x_iload_n (q188c0 16 rfl) rfl ?_
        refine x_bipush (q188c0 17 rfl) ?_
        refine x_icmp_le (q188c0 18 rfl) (fun c5 => ?_) (fun c5 => ?_)
        · replace H := H.1 c5
          refine x_aload_n (q188c0 23 rfl) rfl ?_
          refine x_getr (q188c0 24 rfl) fd0_9 ?_
          refine x_iload_n (q188c0 25 rfl) rfl ?_
          refine x_iload_n (q188c0 26 rfl) rfl ?_
          refine x_iload_n (q188c0 27 rfl) rfl ?_
          obtain ⟨a7, h6, w8, H⟩ := H
          refine x_cvi (q188c0 28 rfl) rfl oc47 rfl (Nat.le_of_ble_eq_true rfl) ⟨a7, h6, w8, ?_⟩
          exact x_ireti (q188c0 29 rfl) zb188 H
        · replace H := H.2 c5
          refine x_aload_n (q188c0 19 rfl) rfl ?_
          refine x_ldc (q188c0 20 rfl) ?_
          refine x_cvi (q188c0 21 rfl) rfl oc0 rfl (Nat.le_of_ble_eq_true rfl) (am_lifti (Nat.le_of_ble_eq_true rfl) (e_At_finding (r1 := h 0 13) (rfl) ?_))
          obtain ⟨s9, H⟩ := H
          refine ⟨s9, ?_⟩
          exact x_ireti (q188c0 22 rfl) zb188 H
      · replace H := H.2 c4
        refine x_aload_n (q188c0 12 rfl) rfl ?_
        refine x_ldc (q188c0 13 rfl) ?_
        refine x_cvi (q188c0 14 rfl) rfl oc0 rfl (Nat.le_of_ble_eq_true rfl) (am_lifti (Nat.le_of_ble_eq_true rfl) (e_At_finding (r1 := h 0 13) (rfl) ?_))
        obtain ⟨s10, H⟩ := H
        refine ⟨s10, ?_⟩
        exact x_ireti (q188c0 15 rfl) zb188 H
  · replace H := H.2 c1
    refine x_if_eq_t (q188c0 2 rfl) (by decide) ?_
    refine x_aload_n (q188c0 6 rfl) rfl ?_
    refine x_ldc (q188c0 7 rfl) ?_
    refine x_cvi (q188c0 8 rfl) rfl oc0 rfl (Nat.le_of_ble_eq_true rfl) (am_lifti (Nat.le_of_ble_eq_true rfl) (e_At_finding (r1 := h 0 13) (rfl) ?_))
    obtain ⟨s11, H⟩ := H
    refine ⟨s11, ?_⟩
    exact x_ireti (q188c0 9 rfl) zb188 H
theorem e_At_sayers {h : am_H} {x1 : Int} {P : Int → am_H → Prop} (H : am_x (am_cd 3) 189 (am_qi P) 0 4 [some (.inr (.inr 0)), some (.inl x1), some (.inl 0), some (.inl 0)] [] h) : ∃ a h1, am_cd 4 189 [.inr (.inr 0), .inl x1] h (some (.inl a)) h1 ∧ P a h1 := by
  refine am_outi (d := 3) (ls := [some (.inr (.inr 0)), some (.inl x1), none, none]) rfl ab189 ml189 (Nat.le_of_ble_eq_true rfl) np189 rfl ?_
  refine x_iconst (q189c0 0 rfl) ?_
  refine x_istore_n (q189c0 1 rfl) ⟨Nat.le_of_ble_eq_true rfl, trivial⟩ ?_
  refine x_iconst (q189c0 2 rfl) ?_
  refine x_istore_n (q189c0 3 rfl) ⟨Nat.le_of_ble_eq_true rfl, trivial⟩ ?_
  exact H
theorem g_At_sayers_4 {h : am_H} {x1 : Int} {x2 : Int} {x3 : Int} {P : Int → am_H → Prop} (H : (h 1 0 ≤ x3 → P x2 h) ∧ (x3 < h 1 0 → (∃ a3 h2, am_cd 3 139 [.inr (.inr 17), .inl x3, .inl x1, .inl (h 0 12)] h (some (.inl a3)) h2 ∧ ((a3 = (-1) → ((am_ok (x3 + 1)) ∧ am_x (am_cd 3) 189 (am_qi P) 0 4 [some (.inr (.inr 0)), some (.inl x1), some (.inl x2), some (.inl (x3 + 1))] [] h2)) ∧ (a3 ≠ (-1) → ((am_ok (x3 + 1)) ∧ am_x (am_cd 3) 189 (am_qi P) 0 4 [some (.inr (.inr 0)), some (.inl x1), some (.inl (am_or x2 (am_shl 1 x3))), some (.inl (x3 + 1))] [] h2)))))) : am_x (am_cd 3) 189 (am_qi P) 0 4 [some (.inr (.inr 0)), some (.inl x1), some (.inl x2), some (.inl x3)] [] h := by
  refine x_iload_n (q189c0 4 rfl) rfl ?_
  refine x_aload_n (q189c0 5 rfl) rfl ?_
  refine x_getr (q189c0 6 rfl) fd0_0 ?_
  refine x_cvi (q189c0 7 rfl) rfl oc1 rfl (Nat.le_of_ble_eq_true rfl) (am_lifti (Nat.le_of_ble_eq_true rfl) (e_Land_size (r1 := h 1 0) (rfl) ?_))
  refine x_icmp_ge (q189c0 8 rfl) (fun c1 => ?_) (fun c1 => ?_)
  · replace H := H.1 c1
    refine x_iload_n (q189c0 26 rfl) rfl ?_
    exact x_ireti (q189c0 27 rfl) zb189 H
  · replace H := H.2 c1
    refine x_aload_n (q189c0 9 rfl) rfl ?_
    refine x_getr (q189c0 10 rfl) fd0_3 ?_
    refine x_iload_n (q189c0 11 rfl) rfl ?_
    refine x_iload_n (q189c0 12 rfl) rfl ?_
    refine x_aload_n (q189c0 13 rfl) rfl ?_
    refine x_getf (q189c0 14 rfl) fd0_12 (rfl) ?_
    obtain ⟨a3, h2, w4, H⟩ := H
    refine x_cvi (q189c0 15 rfl) rfl oc17 rfl (Nat.le_of_ble_eq_true rfl) ⟨a3, h2, w4, ?_⟩
    refine x_iconst (q189c0 16 rfl) ?_
    refine x_icmp_eq (q189c0 17 rfl) (fun c5 => ?_) (fun c5 => ?_)
    · replace H := H.1 c5
      obtain ⟨s6, H⟩ := H
      refine x_iinc (q189c0 24 rfl) rfl ⟨Nat.le_of_ble_eq_true rfl, trivial⟩ s6 ?_
      refine x_goto (q189c0 25 rfl) ?_
      exact H
    · replace H := H.2 c5
      obtain ⟨s7, H⟩ := H
      refine x_iload_n (q189c0 18 rfl) rfl ?_
      refine x_iconst (q189c0 19 rfl) ?_
      refine x_iload_n (q189c0 20 rfl) rfl ?_
      refine x_ishl (q189c0 21 rfl) ?_
      refine x_ior (q189c0 22 rfl) ?_
      refine x_istore_n (q189c0 23 rfl) ⟨Nat.le_of_ble_eq_true rfl, trivial⟩ ?_
      refine x_iinc (q189c0 24 rfl) rfl ⟨Nat.le_of_ble_eq_true rfl, trivial⟩ s7 ?_
      refine x_goto (q189c0 25 rfl) ?_
      exact H
theorem e_Mo_says {h : am_H} {x1 : Int} {x2 : Int} {x3 : Int} {P : Int → am_H → Prop} (H : (am_ok (h 57 0 - 1)) ∧ (((0 ≤ x1 ∧ x1 ≤ h 57 0 - 1) → (((0 ≤ x2 ∧ x2 ≤ 5) → (((0 ≤ x3 ∧ x3 ≤ 999) → (∃ h5, am_cd 3 167 [.inr (.inr 56), .inl x3] h none h5 ∧ ((am_ok (6 * x1) ∧ am_ok (6 * x1 + x2) ∧ (0 ≤ 6 * x1 + x2 ∧ 6 * x1 + x2 < 72)) ∧ ((0 ≤ h5 62 (6 * x1 + x2) → P (h5 62 (6 * x1 + x2)) h5) ∧ (h5 62 (6 * x1 + x2) < 0 → ((am_ok (h5 56 3 + 1)) ∧ P (-100006) (am_up h5 56 3 (h5 56 3 + 1)))))))) ∧ ((¬(0 ≤ x3 ∧ x3 ≤ 999)) → ((am_ok (h 56 3 + 1)) ∧ P (-100001) (am_up h 56 3 (h 56 3 + 1)))))) ∧ ((¬(0 ≤ x2 ∧ x2 ≤ 5)) → ((am_ok (h 56 3 + 1)) ∧ P (-100001) (am_up h 56 3 (h 56 3 + 1)))))) ∧ ((¬(0 ≤ x1 ∧ x1 ≤ h 57 0 - 1)) → ((am_ok (h 56 3 + 1)) ∧ P (-100001) (am_up h 56 3 (h 56 3 + 1)))))) : ∃ a h1, am_cd 4 190 [.inr (.inr 56), .inl x1, .inl x2, .inl x3] h (some (.inl a)) h1 ∧ P a h1 := by
  refine am_outi (d := 3) (ls := [some (.inr (.inr 56)), some (.inl x1), some (.inl x2), some (.inl x3), none]) rfl ab190 ml190 (Nat.le_of_ble_eq_true rfl) np190 rfl ?_
  refine x_aload_n (q190c0 0 rfl) rfl ?_
  refine x_iload_n (q190c0 1 rfl) rfl ?_
  refine x_cvi (q190c0 2 rfl) rfl oc56 rfl (Nat.le_of_ble_eq_true rfl) (am_lifti (Nat.le_of_ble_eq_true rfl) (e_Mo_isVillage (r1 := h 57 0) (rfl) ?_))
  obtain ⟨s1, H⟩ := H
  refine ⟨s1, ?_⟩
  refine ⟨fun c2 => ?_, fun c2 => ?_⟩
  · replace H := H.1 c2
    refine x_if_eq_f (q190c0 3 rfl) (by decide) ?_
    refine x_iload_n (q190c0 4 rfl) rfl ?_
    refine x_csi (q190c0 5 rfl) rfl rfl rfl (Nat.le_of_ble_eq_true rfl) (am_lifti (Nat.le_of_ble_eq_true rfl) (e_Mo_isThing   ?_))
    refine ⟨fun c3 => ?_, fun c3 => ?_⟩
    · replace H := H.1 c3
      refine x_if_eq_f (q190c0 6 rfl) (by decide) ?_
      refine x_iload_n (q190c0 7 rfl) rfl ?_
      refine x_csi (q190c0 8 rfl) rfl rfl rfl (Nat.le_of_ble_eq_true rfl) (am_lifti (Nat.le_of_ble_eq_true rfl) (e_Mo_isDay   ?_))
      refine ⟨fun c4 => ?_, fun c4 => ?_⟩
      · replace H := H.1 c4
        refine x_if_ne_t (q190c0 9 rfl) (by decide) ?_
        refine x_aload_n (q190c0 14 rfl) rfl ?_
        refine x_iload_n (q190c0 15 rfl) rfl ?_
        obtain ⟨h5, w6, H⟩ := H
        refine x_cvv (q190c0 16 rfl) rfl oc56 rfl (Nat.le_of_ble_eq_true rfl) ⟨h5, w6, ?_⟩
        obtain ⟨⟨s7, s8, s9⟩, H⟩ := H
        refine x_aload_n (q190c0 17 rfl) rfl ?_
        refine x_getr (q190c0 18 rfl) fd56_7 ?_
        refine x_bipush (q190c0 19 rfl) ?_
        refine x_iload_n (q190c0 20 rfl) rfl ?_
        refine x_imul (q190c0 21 rfl) s7 ?_
        refine x_iload_n (q190c0 22 rfl) rfl ?_
        refine x_iadd (q190c0 23 rfl) s8 ?_
        refine x_iaload (q190c0 24 rfl) (al62 _) rfl (ag_l rfl rfl (rfl)) s9 ?_
        refine x_istore (q190c0 25 rfl) ⟨Nat.le_of_ble_eq_true rfl, trivial⟩ ?_
        refine x_iload (q190c0 26 rfl) rfl ?_
        refine x_if_ge (q190c0 27 rfl) (fun c10 => ?_) (fun c10 => ?_)
        · replace H := H.1 c10
          refine x_iload (q190c0 32 rfl) rfl ?_
          exact x_ireti (q190c0 33 rfl) zb190 H
        · replace H := H.2 c10
          refine x_aload_n (q190c0 28 rfl) rfl ?_
          refine x_ldc (q190c0 29 rfl) ?_
          refine x_cvi (q190c0 30 rfl) rfl oc56 rfl (Nat.le_of_ble_eq_true rfl) (am_lifti (Nat.le_of_ble_eq_true rfl) (e_Mo_finds (r1 := h5 56 3) (rfl) ?_))
          obtain ⟨s11, H⟩ := H
          refine ⟨s11, ?_⟩
          refine x_goto (q190c0 31 rfl) ?_
          exact x_ireti (q190c0 33 rfl) zb190 H
      · replace H := H.2 c4
        refine x_if_ne_f (q190c0 9 rfl) (by decide) ?_
        refine x_aload_n (q190c0 10 rfl) rfl ?_
        refine x_ldc (q190c0 11 rfl) ?_
        refine x_cvi (q190c0 12 rfl) rfl oc56 rfl (Nat.le_of_ble_eq_true rfl) (am_lifti (Nat.le_of_ble_eq_true rfl) (e_Mo_finds (r1 := h 56 3) (rfl) ?_))
        obtain ⟨s12, H⟩ := H
        refine ⟨s12, ?_⟩
        exact x_ireti (q190c0 13 rfl) zb190 H
    · replace H := H.2 c3
      refine x_if_eq_t (q190c0 6 rfl) (by decide) ?_
      refine x_aload_n (q190c0 10 rfl) rfl ?_
      refine x_ldc (q190c0 11 rfl) ?_
      refine x_cvi (q190c0 12 rfl) rfl oc56 rfl (Nat.le_of_ble_eq_true rfl) (am_lifti (Nat.le_of_ble_eq_true rfl) (e_Mo_finds (r1 := h 56 3) (rfl) ?_))
      obtain ⟨s13, H⟩ := H
      refine ⟨s13, ?_⟩
      exact x_ireti (q190c0 13 rfl) zb190 H
  · replace H := H.2 c2
    refine x_if_eq_t (q190c0 3 rfl) (by decide) ?_
    refine x_aload_n (q190c0 10 rfl) rfl ?_
    refine x_ldc (q190c0 11 rfl) ?_
    refine x_cvi (q190c0 12 rfl) rfl oc56 rfl (Nat.le_of_ble_eq_true rfl) (am_lifti (Nat.le_of_ble_eq_true rfl) (e_Mo_finds (r1 := h 56 3) (rfl) ?_))
    obtain ⟨s14, H⟩ := H
    refine ⟨s14, ?_⟩
    exact x_ireti (q190c0 13 rfl) zb190 H
theorem e_Mo_weight {h : am_H} {x1 : Int} {x2 : Int} {x3 : Int} {x4 : Int} {P : Int → am_H → Prop} (H : (am_ok (h 57 0 - 1)) ∧ (((0 ≤ x1 ∧ x1 ≤ h 57 0 - 1) → (((0 ≤ x2 ∧ x2 ≤ 5) → ((am_ok (h 57 2 - 1)) ∧ (((0 ≤ x3 ∧ x3 ≤ h 57 2 - 1) → (((0 ≤ x4 ∧ x4 ≤ 999) → (∃ h7, am_cd 3 167 [.inr (.inr 56), .inl x4] h none h7 ∧ (∃ a10 h9, am_cd 3 127 [.inr (.inr 56), .inl x1, .inl x2, .inl x3] h7 (some (.inl a10)) h9 ∧ P a10 h9))) ∧ ((¬(0 ≤ x4 ∧ x4 ≤ 999)) → ((am_ok (h 56 3 + 1)) ∧ P (-100001) (am_up h 56 3 (h 56 3 + 1)))))) ∧ ((¬(0 ≤ x3 ∧ x3 ≤ h 57 2 - 1)) → ((am_ok (h 56 3 + 1)) ∧ P (-100001) (am_up h 56 3 (h 56 3 + 1))))))) ∧ ((¬(0 ≤ x2 ∧ x2 ≤ 5)) → ((am_ok (h 56 3 + 1)) ∧ P (-100001) (am_up h 56 3 (h 56 3 + 1)))))) ∧ ((¬(0 ≤ x1 ∧ x1 ≤ h 57 0 - 1)) → ((am_ok (h 56 3 + 1)) ∧ P (-100001) (am_up h 56 3 (h 56 3 + 1)))))) : ∃ a h1, am_cd 4 191 [.inr (.inr 56), .inl x1, .inl x2, .inl x3, .inl x4] h (some (.inl a)) h1 ∧ P a h1 := by
  refine am_outi (d := 3) (ls := [some (.inr (.inr 56)), some (.inl x1), some (.inl x2), some (.inl x3), some (.inl x4)]) rfl ab191 ml191 (Nat.le_of_ble_eq_true rfl) np191 rfl ?_
  refine x_aload_n (q191c0 0 rfl) rfl ?_
  refine x_iload_n (q191c0 1 rfl) rfl ?_
  refine x_cvi (q191c0 2 rfl) rfl oc56 rfl (Nat.le_of_ble_eq_true rfl) (am_lifti (Nat.le_of_ble_eq_true rfl) (e_Mo_isVillage (r1 := h 57 0) (rfl) ?_))
  obtain ⟨s1, H⟩ := H
  refine ⟨s1, ?_⟩
  refine ⟨fun c2 => ?_, fun c2 => ?_⟩
  · replace H := H.1 c2
    refine x_if_eq_f (q191c0 3 rfl) (by decide) ?_
    refine x_iload_n (q191c0 4 rfl) rfl ?_
    refine x_csi (q191c0 5 rfl) rfl rfl rfl (Nat.le_of_ble_eq_true rfl) (am_lifti (Nat.le_of_ble_eq_true rfl) (e_Mo_isThing   ?_))
    refine ⟨fun c3 => ?_, fun c3 => ?_⟩
    · replace H := H.1 c3
      refine x_if_eq_f (q191c0 6 rfl) (by decide) ?_
      refine x_aload_n (q191c0 7 rfl) rfl ?_
      refine x_iload_n (q191c0 8 rfl) rfl ?_
      refine x_cvi (q191c0 9 rfl) rfl oc56 rfl (Nat.le_of_ble_eq_true rfl) (am_lifti (Nat.le_of_ble_eq_true rfl) (e_Mo_isForm (r1 := h 57 2) (rfl) ?_))
      obtain ⟨s4, H⟩ := H
      refine ⟨s4, ?_⟩
      refine ⟨fun c5 => ?_, fun c5 => ?_⟩
      · replace H := H.1 c5
        refine x_if_eq_f (q191c0 10 rfl) (by decide) ?_
        refine x_iload (q191c0 11 rfl) rfl ?_
        refine x_csi (q191c0 12 rfl) rfl rfl rfl (Nat.le_of_ble_eq_true rfl) (am_lifti (Nat.le_of_ble_eq_true rfl) (e_Mo_isDay   ?_))
        refine ⟨fun c6 => ?_, fun c6 => ?_⟩
        · replace H := H.1 c6
          refine x_if_ne_t (q191c0 13 rfl) (by decide) ?_
          refine x_aload_n (q191c0 18 rfl) rfl ?_
          refine x_iload (q191c0 19 rfl) rfl ?_
          obtain ⟨h7, w8, H⟩ := H
          refine x_cvv (q191c0 20 rfl) rfl oc56 rfl (Nat.le_of_ble_eq_true rfl) ⟨h7, w8, ?_⟩
          refine x_aload_n (q191c0 21 rfl) rfl ?_
          refine x_iload_n (q191c0 22 rfl) rfl ?_
          refine x_iload_n (q191c0 23 rfl) rfl ?_
          refine x_iload_n (q191c0 24 rfl) rfl ?_
          obtain ⟨a10, h9, w11, H⟩ := H
          refine x_cvi (q191c0 25 rfl) rfl oc56 rfl (Nat.le_of_ble_eq_true rfl) ⟨a10, h9, w11, ?_⟩
          exact x_ireti (q191c0 26 rfl) zb191 H
        · replace H := H.2 c6
          refine x_if_ne_f (q191c0 13 rfl) (by decide) ?_
          refine x_aload_n (q191c0 14 rfl) rfl ?_
          refine x_ldc (q191c0 15 rfl) ?_
          refine x_cvi (q191c0 16 rfl) rfl oc56 rfl (Nat.le_of_ble_eq_true rfl) (am_lifti (Nat.le_of_ble_eq_true rfl) (e_Mo_finds (r1 := h 56 3) (rfl) ?_))
          obtain ⟨s12, H⟩ := H
          refine ⟨s12, ?_⟩
          exact x_ireti (q191c0 17 rfl) zb191 H
      · replace H := H.2 c5
        refine x_if_eq_t (q191c0 10 rfl) (by decide) ?_
        refine x_aload_n (q191c0 14 rfl) rfl ?_
        refine x_ldc (q191c0 15 rfl) ?_
        refine x_cvi (q191c0 16 rfl) rfl oc56 rfl (Nat.le_of_ble_eq_true rfl) (am_lifti (Nat.le_of_ble_eq_true rfl) (e_Mo_finds (r1 := h 56 3) (rfl) ?_))
        obtain ⟨s13, H⟩ := H
        refine ⟨s13, ?_⟩
        exact x_ireti (q191c0 17 rfl) zb191 H
    · replace H := H.2 c3
      refine x_if_eq_t (q191c0 6 rfl) (by decide) ?_
      refine x_aload_n (q191c0 14 rfl) rfl ?_
      refine x_ldc (q191c0 15 rfl) ?_
      refine x_cvi (q191c0 16 rfl) rfl oc56 rfl (Nat.le_of_ble_eq_true rfl) (am_lifti (Nat.le_of_ble_eq_true rfl) (e_Mo_finds (r1 := h 56 3) (rfl) ?_))
      obtain ⟨s14, H⟩ := H
      refine ⟨s14, ?_⟩
      exact x_ireti (q191c0 17 rfl) zb191 H
  · replace H := H.2 c2
    refine x_if_eq_t (q191c0 3 rfl) (by decide) ?_
    refine x_aload_n (q191c0 14 rfl) rfl ?_
    refine x_ldc (q191c0 15 rfl) ?_
    refine x_cvi (q191c0 16 rfl) rfl oc56 rfl (Nat.le_of_ble_eq_true rfl) (am_lifti (Nat.le_of_ble_eq_true rfl) (e_Mo_finds (r1 := h 56 3) (rfl) ?_))
    obtain ⟨s15, H⟩ := H
    refine ⟨s15, ?_⟩
    exact x_ireti (q191c0 17 rfl) zb191 H
theorem e_Mo_text {h : am_H} {x1 : Int} {P : Int → am_H → Prop} (H : ((0 ≤ x1 ∧ x1 ≤ 3) → am_x (am_cd 3) 192 (am_qi P) 0 25 [some (.inr (.inr 56)), some (.inl x1), some (.inl 0), some (.inl 1), none] [] (am_up h 56 15 0)) ∧ ((¬(0 ≤ x1 ∧ x1 ≤ 3)) → ((am_ok (h 56 3 + 1)) ∧ P (-100001) (am_up h 56 3 (h 56 3 + 1))))) : ∃ a h1, am_cd 4 192 [.inr (.inr 56), .inl x1] h (some (.inl a)) h1 ∧ P a h1 := by
  refine am_outi (d := 3) (ls := [some (.inr (.inr 56)), some (.inl x1), none, none, none]) rfl ab192 ml192 (Nat.le_of_ble_eq_true rfl) np192 rfl ?_
  refine x_iload_n (q192c0 0 rfl) rfl ?_
  refine x_iconst (q192c0 1 rfl) ?_
  refine x_iconst (q192c0 2 rfl) ?_
  refine x_csi (q192c0 3 rfl) rfl rfl rfl (Nat.le_of_ble_eq_true rfl) (am_lifti (Nat.le_of_ble_eq_true rfl) (e_Mo_in   ?_))
  refine ⟨fun c1 => ?_, fun c1 => ?_⟩
  · replace H := H.1 c1
    refine x_if_ne_t (q192c0 4 rfl) (by decide) ?_
    refine x_aload_n (q192c0 9 rfl) rfl ?_
    refine x_iconst (q192c0 10 rfl) ?_
    refine x_putf (q192c0 11 rfl) fd56_15 ?_
    refine x_iconst (q192c0 12 rfl) ?_
    refine x_istore_n (q192c0 13 rfl) ⟨Nat.le_of_ble_eq_true rfl, trivial⟩ ?_
    refine x_iconst (q192c0 14 rfl) ?_
    refine x_istore_n (q192c0 15 rfl) ⟨Nat.le_of_ble_eq_true rfl, trivial⟩ ?_
    exact H
  · replace H := H.2 c1
    refine x_if_ne_f (q192c0 4 rfl) (by decide) ?_
    refine x_aload_n (q192c0 5 rfl) rfl ?_
    refine x_ldc (q192c0 6 rfl) ?_
    refine x_cvi (q192c0 7 rfl) rfl oc56 rfl (Nat.le_of_ble_eq_true rfl) (am_lifti (Nat.le_of_ble_eq_true rfl) (e_Mo_finds (r1 := h 56 3) (rfl) ?_))
    obtain ⟨s2, H⟩ := H
    refine ⟨s2, ?_⟩
    exact x_ireti (q192c0 8 rfl) zb192 H
theorem g_Mo_text_25 {h : am_H} {x1 : Int} {x2 : Int} {x3 : Int} {P : Int → am_H → Prop} (H : (x3 = 0 → P (h 56 15) (am_up h 56 14 0)) ∧ (x3 ≠ 0 → ((h 56 14 ≤ h 56 15 → ((0 ≤ x1 ∧ x1 < 4) ∧ am_x (am_cd 3) 192 (am_qi P) 0 76 [some (.inr (.inr 56)), some (.inl x1), some (.inl x2), none, some (.inl 0)] [] (am_up (am_up h 56 14 0) 64 x1 x2))) ∧ (h 56 15 < h 56 14 → (∃ a5 h4, am_cd 3 168 [.inr (.inr 56), .inl x2] h (some (.inl a5)) h4 ∧ ((am_ok (x2 + 1)) ∧ am_x (am_cd 3) 192 (am_qi P) 0 25 [some (.inr (.inr 56)), some (.inl x1), some (.inl (x2 + 1)), some (.inl a5), none] [] h4)))))) : am_x (am_cd 3) 192 (am_qi P) 0 25 [some (.inr (.inr 56)), some (.inl x1), some (.inl x2), some (.inl x3), none] [] h := by
  refine x_iload_n (q192c0 16 rfl) rfl ?_
  refine x_if_eq (q192c0 17 rfl) (fun c1 => ?_) (fun c1 => ?_)
  · replace H := H.1 c1
    refine x_aload_n (q192c0 29 rfl) rfl ?_
    refine x_iconst (q192c0 30 rfl) ?_
    refine x_putf (q192c0 31 rfl) fd56_14 ?_
    refine x_iload_n (q192c0 32 rfl) rfl ?_
    refine x_if_ne_f (q192c0 33 rfl) c1 ?_
    refine x_aload_n (q192c0 34 rfl) rfl ?_
    refine x_getf (q192c0 35 rfl) fd56_15 (up_i (by decide) (rfl)) ?_
    exact x_ireti (q192c0 36 rfl) zb192 H
  · replace H := H.2 c1
    refine x_aload_n (q192c0 18 rfl) rfl ?_
    refine x_getf (q192c0 19 rfl) fd56_15 (rfl) ?_
    refine x_aload_n (q192c0 20 rfl) rfl ?_
    refine x_getf (q192c0 21 rfl) fd56_14 (rfl) ?_
    refine x_icmp_ge (q192c0 22 rfl) (fun c2 => ?_) (fun c2 => ?_)
    · replace H := H.1 c2
      obtain ⟨s3, H⟩ := H
      refine x_aload_n (q192c0 29 rfl) rfl ?_
      refine x_iconst (q192c0 30 rfl) ?_
      refine x_putf (q192c0 31 rfl) fd56_14 ?_
      refine x_iload_n (q192c0 32 rfl) rfl ?_
      refine x_if_ne_t (q192c0 33 rfl) c1 ?_
      refine x_aload_n (q192c0 37 rfl) rfl ?_
      refine x_getr (q192c0 38 rfl) fd56_9 ?_
      refine x_iload_n (q192c0 39 rfl) rfl ?_
      refine x_iload_n (q192c0 40 rfl) rfl ?_
      refine x_iastore (q192c0 41 rfl) (al64 _) rfl (Nat.le_of_ble_eq_true rfl) s3 (j := x1) rfl ?_
      refine x_iconst (q192c0 42 rfl) ?_
      refine x_istore (q192c0 43 rfl) ⟨Nat.le_of_ble_eq_true rfl, trivial⟩ ?_
      exact am_x_weak (ls' := [some (.inr (.inr 56)), some (.inl x1), some (.inl x2), some (.inl x3), some (.inl 0)]) (lle_c (lle_c (lle_c (lle_d trivial (lle_c (lle_nil)))))) H
    · replace H := H.2 c2
      refine x_aload_n (q192c0 23 rfl) rfl ?_
      refine x_iload_n (q192c0 24 rfl) rfl ?_
      obtain ⟨a5, h4, w6, H⟩ := H
      refine x_cvi (q192c0 25 rfl) rfl oc56 rfl (Nat.le_of_ble_eq_true rfl) ⟨a5, h4, w6, ?_⟩
      obtain ⟨s7, H⟩ := H
      refine x_istore_n (q192c0 26 rfl) ⟨Nat.le_of_ble_eq_true rfl, trivial⟩ ?_
      refine x_iinc (q192c0 27 rfl) rfl ⟨Nat.le_of_ble_eq_true rfl, trivial⟩ s7 ?_
      refine x_goto (q192c0 28 rfl) ?_
      exact H
theorem g_Mo_text_76 {h : am_H} {x1 : Int} {x2 : Int} {x4 : Int} {P : Int → am_H → Prop} (H : (am_ok (4 * x2)) ∧ ((4 * x2 ≤ x4 → P (-1) h) ∧ (x4 < 4 * x2 → ((am_ok (48 * x1) ∧ am_ok (48 * x1 + x4) ∧ (0 ≤ x4 ∧ x4 < 48) ∧ (0 ≤ 48 * x1 + x4 ∧ 48 * x1 + x4 < 192) ∧ am_ok (x4 + 1)) ∧ am_x (am_cd 3) 192 (am_qi P) 0 76 [some (.inr (.inr 56)), some (.inl x1), some (.inl x2), none, some (.inl (x4 + 1))] [] (am_up h 65 (48 * x1 + x4) (h 66 x4)))))) : am_x (am_cd 3) 192 (am_qi P) 0 76 [some (.inr (.inr 56)), some (.inl x1), some (.inl x2), none, some (.inl x4)] [] h := by
  obtain ⟨s1, H⟩ := H
  refine x_iload (q192c0 44 rfl) rfl ?_
  refine x_iconst (q192c0 45 rfl) ?_
  refine x_iload_n (q192c0 46 rfl) rfl ?_
  refine x_imul (q192c0 47 rfl) s1 ?_
  refine x_icmp_ge (q192c0 48 rfl) (fun c2 => ?_) (fun c2 => ?_)
  · replace H := H.1 c2
    refine x_iconst (q192c1 3 rfl) ?_
    exact x_ireti (q192c1 4 rfl) zb192 H
  · replace H := H.2 c2
    obtain ⟨⟨s3, s4, s5, s6, s7⟩, H⟩ := H
    refine x_aload_n (q192c0 49 rfl) rfl ?_
    refine x_getr (q192c0 50 rfl) fd56_10 ?_
    refine x_bipush (q192c0 51 rfl) ?_
    refine x_iload_n (q192c0 52 rfl) rfl ?_
    refine x_imul (q192c0 53 rfl) s3 ?_
    refine x_iload (q192c0 54 rfl) rfl ?_
    refine x_iadd (q192c0 55 rfl) s4 ?_
    refine x_aload_n (q192c0 56 rfl) rfl ?_
    refine x_getr (q192c0 57 rfl) fd56_11 ?_
    refine x_iload (q192c0 58 rfl) rfl ?_
    refine x_iaload (q192c0 59 rfl) (al66 _) rfl (ag_l rfl rfl (rfl)) s5 ?_
    refine x_iastore (q192c1 0 rfl) (al65 _) rfl (Nat.le_of_ble_eq_true rfl) s6 (j := 48 * x1 + x4) rfl ?_
    refine x_iinc (q192c1 1 rfl) rfl ⟨Nat.le_of_ble_eq_true rfl, trivial⟩ s7 ?_
    refine x_goto (q192c1 2 rfl) ?_
    exact H
theorem e_Mo_becomes {h : am_H} {x1 : Int} {x2 : Int} {x3 : Int} {P : Int → am_H → Prop} (H : (am_ok (h 57 2 - 1)) ∧ (((0 ≤ x1 ∧ x1 ≤ h 57 2 - 1) → (((0 ≤ x2 ∧ x2 ≤ 3) → (((-1) ≤ x3 → (∃ h5, am_cd 3 169 [.inr (.inr 56), .inl x1, .inl x2] h none h5 ∧ ((0 ≤ x3 → ((h5 56 16 ≤ x3 → ((am_ok (h5 56 3 + 1)) ∧ P (-100001) (am_up h5 56 3 (h5 56 3 + 1)))) ∧ (x3 < h5 56 16 → ((0 ≤ x3 ∧ x3 < 8) ∧ P (h5 67 x3) h5)))) ∧ (x3 < 0 → P (h5 56 16) h5)))) ∧ (x3 < (-1) → ((am_ok (h 56 3 + 1)) ∧ P (-100001) (am_up h 56 3 (h 56 3 + 1)))))) ∧ ((¬(0 ≤ x2 ∧ x2 ≤ 3)) → ((am_ok (h 56 3 + 1)) ∧ P (-100001) (am_up h 56 3 (h 56 3 + 1)))))) ∧ ((¬(0 ≤ x1 ∧ x1 ≤ h 57 2 - 1)) → ((am_ok (h 56 3 + 1)) ∧ P (-100001) (am_up h 56 3 (h 56 3 + 1)))))) : ∃ a h1, am_cd 4 193 [.inr (.inr 56), .inl x1, .inl x2, .inl x3] h (some (.inl a)) h1 ∧ P a h1 := by
  refine am_outi (d := 3) (ls := [some (.inr (.inr 56)), some (.inl x1), some (.inl x2), some (.inl x3)]) rfl ab193 ml193 (Nat.le_of_ble_eq_true rfl) np193 rfl ?_
  refine x_aload_n (q193c0 0 rfl) rfl ?_
  refine x_iload_n (q193c0 1 rfl) rfl ?_
  refine x_cvi (q193c0 2 rfl) rfl oc56 rfl (Nat.le_of_ble_eq_true rfl) (am_lifti (Nat.le_of_ble_eq_true rfl) (e_Mo_isForm (r1 := h 57 2) (rfl) ?_))
  obtain ⟨s1, H⟩ := H
  refine ⟨s1, ?_⟩
  refine ⟨fun c2 => ?_, fun c2 => ?_⟩
  · replace H := H.1 c2
    refine x_if_eq_f (q193c0 3 rfl) (by decide) ?_
    refine x_iload_n (q193c0 4 rfl) rfl ?_
    refine x_iconst (q193c0 5 rfl) ?_
    refine x_iconst (q193c0 6 rfl) ?_
    refine x_csi (q193c0 7 rfl) rfl rfl rfl (Nat.le_of_ble_eq_true rfl) (am_lifti (Nat.le_of_ble_eq_true rfl) (e_Mo_in   ?_))
    refine ⟨fun c3 => ?_, fun c3 => ?_⟩
    · replace H := H.1 c3
      refine x_if_eq_f (q193c0 8 rfl) (by decide) ?_
      refine x_iload_n (q193c0 9 rfl) rfl ?_
      refine x_iconst (q193c0 10 rfl) ?_
      refine x_icmp_ge (q193c0 11 rfl) (fun c4 => ?_) (fun c4 => ?_)
      · replace H := H.1 c4
        refine x_aload_n (q193c0 16 rfl) rfl ?_
        refine x_iload_n (q193c0 17 rfl) rfl ?_
        refine x_iload_n (q193c0 18 rfl) rfl ?_
        obtain ⟨h5, w6, H⟩ := H
        refine x_cvv (q193c0 19 rfl) rfl oc56 rfl (Nat.le_of_ble_eq_true rfl) ⟨h5, w6, ?_⟩
        refine x_iload_n (q193c0 20 rfl) rfl ?_
        refine x_if_ge (q193c0 21 rfl) (fun c7 => ?_) (fun c7 => ?_)
        · replace H := H.1 c7
          refine x_iload_n (q193c0 25 rfl) rfl ?_
          refine x_aload_n (q193c0 26 rfl) rfl ?_
          refine x_getf (q193c0 27 rfl) fd56_16 (rfl) ?_
          refine x_icmp_ge (q193c0 28 rfl) (fun c8 => ?_) (fun c8 => ?_)
          · replace H := H.1 c8
            refine x_aload_n (q193c0 34 rfl) rfl ?_
            refine x_ldc (q193c0 35 rfl) ?_
            refine x_cvi (q193c0 36 rfl) rfl oc56 rfl (Nat.le_of_ble_eq_true rfl) (am_lifti (Nat.le_of_ble_eq_true rfl) (e_Mo_finds (r1 := h5 56 3) (rfl) ?_))
            obtain ⟨s9, H⟩ := H
            refine ⟨s9, ?_⟩
            exact x_ireti (q193c0 37 rfl) zb193 H
          · replace H := H.2 c8
            obtain ⟨s10, H⟩ := H
            refine x_aload_n (q193c0 29 rfl) rfl ?_
            refine x_getr (q193c0 30 rfl) fd56_12 ?_
            refine x_iload_n (q193c0 31 rfl) rfl ?_
            refine x_iaload (q193c0 32 rfl) (al67 _) rfl (ag_l rfl rfl (rfl)) s10 ?_
            refine x_goto (q193c0 33 rfl) ?_
            exact x_ireti (q193c0 37 rfl) zb193 H
        · replace H := H.2 c7
          refine x_aload_n (q193c0 22 rfl) rfl ?_
          refine x_getf (q193c0 23 rfl) fd56_16 (rfl) ?_
          refine x_goto (q193c0 24 rfl) ?_
          exact x_ireti (q193c0 37 rfl) zb193 H
      · replace H := H.2 c4
        refine x_aload_n (q193c0 12 rfl) rfl ?_
        refine x_ldc (q193c0 13 rfl) ?_
        refine x_cvi (q193c0 14 rfl) rfl oc56 rfl (Nat.le_of_ble_eq_true rfl) (am_lifti (Nat.le_of_ble_eq_true rfl) (e_Mo_finds (r1 := h 56 3) (rfl) ?_))
        obtain ⟨s11, H⟩ := H
        refine ⟨s11, ?_⟩
        exact x_ireti (q193c0 15 rfl) zb193 H
    · replace H := H.2 c3
      refine x_if_eq_t (q193c0 8 rfl) (by decide) ?_
      refine x_aload_n (q193c0 12 rfl) rfl ?_
      refine x_ldc (q193c0 13 rfl) ?_
      refine x_cvi (q193c0 14 rfl) rfl oc56 rfl (Nat.le_of_ble_eq_true rfl) (am_lifti (Nat.le_of_ble_eq_true rfl) (e_Mo_finds (r1 := h 56 3) (rfl) ?_))
      obtain ⟨s12, H⟩ := H
      refine ⟨s12, ?_⟩
      exact x_ireti (q193c0 15 rfl) zb193 H
  · replace H := H.2 c2
    refine x_if_eq_t (q193c0 3 rfl) (by decide) ?_
    refine x_aload_n (q193c0 12 rfl) rfl ?_
    refine x_ldc (q193c0 13 rfl) ?_
    refine x_cvi (q193c0 14 rfl) rfl oc56 rfl (Nat.le_of_ble_eq_true rfl) (am_lifti (Nat.le_of_ble_eq_true rfl) (e_Mo_finds (r1 := h 56 3) (rfl) ?_))
    obtain ⟨s13, H⟩ := H
    refine ⟨s13, ?_⟩
    exact x_ireti (q193c0 15 rfl) zb193 H
theorem e_Mo_explains {h : am_H} {x1 : Int} {x2 : Int} {x3 : Int} {P : Int → am_H → Prop} (H : (am_ok (h 57 0 - 1)) ∧ (((0 ≤ x1 ∧ x1 ≤ h 57 0 - 1) → (((0 ≤ x2 ∧ x2 ≤ 5) → ((am_ok (h 57 2 - 1)) ∧ (((0 ≤ x3 ∧ x3 ≤ h 57 2 - 1) → (∃ h6, am_cd 3 167 [.inr (.inr 56), .inl (h 57 4)] h none h6 ∧ ((am_ok (6 * x1) ∧ am_ok (6 * x1 + x2) ∧ (0 ≤ 6 * x1 + x2 ∧ 6 * x1 + x2 < 72)) ∧ ((0 ≤ h6 62 (6 * x1 + x2) → am_x (am_cd 3) 194 (am_qi P) 0 68 [some (.inr (.inr 56)), none, none, some (.inl x3), some (.inl (h6 62 (6 * x1 + x2))), some (.inl 0)] [] h6) ∧ (h6 62 (6 * x1 + x2) < 0 → ((am_ok (h6 56 3 + 1)) ∧ P (-100002) (am_up h6 56 3 (h6 56 3 + 1)))))))) ∧ ((¬(0 ≤ x3 ∧ x3 ≤ h 57 2 - 1)) → ((am_ok (h 56 3 + 1)) ∧ P (-100001) (am_up h 56 3 (h 56 3 + 1))))))) ∧ ((¬(0 ≤ x2 ∧ x2 ≤ 5)) → ((am_ok (h 56 3 + 1)) ∧ P (-100001) (am_up h 56 3 (h 56 3 + 1)))))) ∧ ((¬(0 ≤ x1 ∧ x1 ≤ h 57 0 - 1)) → ((am_ok (h 56 3 + 1)) ∧ P (-100001) (am_up h 56 3 (h 56 3 + 1)))))) : ∃ a h1, am_cd 4 194 [.inr (.inr 56), .inl x1, .inl x2, .inl x3] h (some (.inl a)) h1 ∧ P a h1 := by
  refine am_outi (d := 3) (ls := [some (.inr (.inr 56)), some (.inl x1), some (.inl x2), some (.inl x3), none, none]) rfl ab194 ml194 (Nat.le_of_ble_eq_true rfl) np194 rfl ?_
  refine x_aload_n (q194c0 0 rfl) rfl ?_
  refine x_iload_n (q194c0 1 rfl) rfl ?_
  refine x_cvi (q194c0 2 rfl) rfl oc56 rfl (Nat.le_of_ble_eq_true rfl) (am_lifti (Nat.le_of_ble_eq_true rfl) (e_Mo_isVillage (r1 := h 57 0) (rfl) ?_))
  obtain ⟨s1, H⟩ := H
  refine ⟨s1, ?_⟩
  refine ⟨fun c2 => ?_, fun c2 => ?_⟩
  · replace H := H.1 c2
    refine x_if_eq_f (q194c0 3 rfl) (by decide) ?_
    refine x_iload_n (q194c0 4 rfl) rfl ?_
    refine x_csi (q194c0 5 rfl) rfl rfl rfl (Nat.le_of_ble_eq_true rfl) (am_lifti (Nat.le_of_ble_eq_true rfl) (e_Mo_isThing   ?_))
    refine ⟨fun c3 => ?_, fun c3 => ?_⟩
    · replace H := H.1 c3
      refine x_if_eq_f (q194c0 6 rfl) (by decide) ?_
      refine x_aload_n (q194c0 7 rfl) rfl ?_
      refine x_iload_n (q194c0 8 rfl) rfl ?_
      refine x_cvi (q194c0 9 rfl) rfl oc56 rfl (Nat.le_of_ble_eq_true rfl) (am_lifti (Nat.le_of_ble_eq_true rfl) (e_Mo_isForm (r1 := h 57 2) (rfl) ?_))
      obtain ⟨s4, H⟩ := H
      refine ⟨s4, ?_⟩
      refine ⟨fun c5 => ?_, fun c5 => ?_⟩
      · replace H := H.1 c5
        refine x_if_ne_t (q194c0 10 rfl) (by decide) ?_
        refine x_aload_n (q194c0 15 rfl) rfl ?_
        refine x_aload_n (q194c0 16 rfl) rfl ?_
        refine x_getr (q194c0 17 rfl) fd56_0 ?_
        refine x_iconst (q194c0 18 rfl) ?_
        refine x_iaload (q194c0 19 rfl) (al57 _) rfl (ag_l rfl rfl (rfl)) (by decide) ?_
        obtain ⟨h6, w7, H⟩ := H
        refine x_cvv (q194c0 20 rfl) rfl oc56 rfl (Nat.le_of_ble_eq_true rfl) ⟨h6, w7, ?_⟩
        obtain ⟨⟨s8, s9, s10⟩, H⟩ := H
        refine x_aload_n (q194c0 21 rfl) rfl ?_
        refine x_getr (q194c0 22 rfl) fd56_7 ?_
        refine x_bipush (q194c0 23 rfl) ?_
        refine x_iload_n (q194c0 24 rfl) rfl ?_
        refine x_imul (q194c0 25 rfl) s8 ?_
        refine x_iload_n (q194c0 26 rfl) rfl ?_
        refine x_iadd (q194c0 27 rfl) s9 ?_
        refine x_iaload (q194c0 28 rfl) (al62 _) rfl (ag_l rfl rfl (rfl)) s10 ?_
        refine x_istore (q194c0 29 rfl) ⟨Nat.le_of_ble_eq_true rfl, trivial⟩ ?_
        refine x_iload (q194c0 30 rfl) rfl ?_
        refine x_if_ge (q194c0 31 rfl) (fun c11 => ?_) (fun c11 => ?_)
        · replace H := H.1 c11
          refine x_iconst (q194c0 36 rfl) ?_
          refine x_istore (q194c0 37 rfl) ⟨Nat.le_of_ble_eq_true rfl, trivial⟩ ?_
          exact am_x_weak (ls' := [some (.inr (.inr 56)), some (.inl x1), some (.inl x2), some (.inl x3), some (.inl (h6 62 (6 * x1 + x2))), some (.inl 0)]) (lle_c (lle_d trivial (lle_d trivial (lle_c (lle_c (lle_c (lle_nil))))))) H
        · replace H := H.2 c11
          refine x_aload_n (q194c0 32 rfl) rfl ?_
          refine x_ldc (q194c0 33 rfl) ?_
          refine x_cvi (q194c0 34 rfl) rfl oc56 rfl (Nat.le_of_ble_eq_true rfl) (am_lifti (Nat.le_of_ble_eq_true rfl) (e_Mo_finds (r1 := h6 56 3) (rfl) ?_))
          obtain ⟨s12, H⟩ := H
          refine ⟨s12, ?_⟩
          exact x_ireti (q194c0 35 rfl) zb194 H
      · replace H := H.2 c5
        refine x_if_ne_f (q194c0 10 rfl) (by decide) ?_
        refine x_aload_n (q194c0 11 rfl) rfl ?_
        refine x_ldc (q194c0 12 rfl) ?_
        refine x_cvi (q194c0 13 rfl) rfl oc56 rfl (Nat.le_of_ble_eq_true rfl) (am_lifti (Nat.le_of_ble_eq_true rfl) (e_Mo_finds (r1 := h 56 3) (rfl) ?_))
        obtain ⟨s13, H⟩ := H
        refine ⟨s13, ?_⟩
        exact x_ireti (q194c0 14 rfl) zb194 H
    · replace H := H.2 c3
      refine x_if_eq_t (q194c0 6 rfl) (by decide) ?_
      refine x_aload_n (q194c0 11 rfl) rfl ?_
      refine x_ldc (q194c0 12 rfl) ?_
      refine x_cvi (q194c0 13 rfl) rfl oc56 rfl (Nat.le_of_ble_eq_true rfl) (am_lifti (Nat.le_of_ble_eq_true rfl) (e_Mo_finds (r1 := h 56 3) (rfl) ?_))
      obtain ⟨s14, H⟩ := H
      refine ⟨s14, ?_⟩
      exact x_ireti (q194c0 14 rfl) zb194 H
  · replace H := H.2 c2
    refine x_if_eq_t (q194c0 3 rfl) (by decide) ?_
    refine x_aload_n (q194c0 11 rfl) rfl ?_
    refine x_ldc (q194c0 12 rfl) ?_
    refine x_cvi (q194c0 13 rfl) rfl oc56 rfl (Nat.le_of_ble_eq_true rfl) (am_lifti (Nat.le_of_ble_eq_true rfl) (e_Mo_finds (r1 := h 56 3) (rfl) ?_))
    obtain ⟨s15, H⟩ := H
    refine ⟨s15, ?_⟩
    exact x_ireti (q194c0 14 rfl) zb194 H
theorem g_Mo_explains_68 {h : am_H} {x3 : Int} {x4 : Int} {x5 : Int} {P : Int → am_H → Prop} (H : (4 ≤ x5 → ((am_ok (h 56 3 + 1)) ∧ P (-100006) (am_up h 56 3 (h 56 3 + 1)))) ∧ (x5 < 4 → (∃ h3, am_cd 3 169 [.inr (.inr 56), .inl x3, .inl x5] h none h3 ∧ (∃ a6 h5, am_cd 3 132 [.inr (.inr 56), .inl x4] h3 (some (.inl a6)) h5 ∧ ((a6 = 0 → ((am_ok (x5 + 1)) ∧ am_x (am_cd 3) 194 (am_qi P) 0 68 [some (.inr (.inr 56)), none, none, some (.inl x3), some (.inl x4), some (.inl (x5 + 1))] [] h5)) ∧ (a6 ≠ 0 → P x5 h5)))))) : am_x (am_cd 3) 194 (am_qi P) 0 68 [some (.inr (.inr 56)), none, none, some (.inl x3), some (.inl x4), some (.inl x5)] [] h := by
  refine x_iload (q194c0 38 rfl) rfl ?_
  refine x_iconst (q194c0 39 rfl) ?_
  refine x_icmp_ge (q194c0 40 rfl) (fun c1 => ?_) (fun c1 => ?_)
  · replace H := H.1 c1
    refine x_aload_n (q194c0 53 rfl) rfl ?_
    refine x_ldc (q194c0 54 rfl) ?_
    refine x_cvi (q194c0 55 rfl) rfl oc56 rfl (Nat.le_of_ble_eq_true rfl) (am_lifti (Nat.le_of_ble_eq_true rfl) (e_Mo_finds (r1 := h 56 3) (rfl) ?_))
    obtain ⟨s2, H⟩ := H
    refine ⟨s2, ?_⟩
    exact x_ireti (q194c0 56 rfl) zb194 H
  · replace H := H.2 c1
    refine x_aload_n (q194c0 41 rfl) rfl ?_
    refine x_iload_n (q194c0 42 rfl) rfl ?_
    refine x_iload (q194c0 43 rfl) rfl ?_
    obtain ⟨h3, w4, H⟩ := H
    refine x_cvv (q194c0 44 rfl) rfl oc56 rfl (Nat.le_of_ble_eq_true rfl) ⟨h3, w4, ?_⟩
    refine x_aload_n (q194c0 45 rfl) rfl ?_
    refine x_iload (q194c0 46 rfl) rfl ?_
    obtain ⟨a6, h5, w7, H⟩ := H
    refine x_cvi (q194c0 47 rfl) rfl oc56 rfl (Nat.le_of_ble_eq_true rfl) ⟨a6, h5, w7, ?_⟩
    refine x_if_eq (q194c0 48 rfl) (fun c8 => ?_) (fun c8 => ?_)
    · replace H := H.1 c8
      obtain ⟨s9, H⟩ := H
      refine x_iinc (q194c0 51 rfl) rfl ⟨Nat.le_of_ble_eq_true rfl, trivial⟩ s9 ?_
      refine x_goto (q194c0 52 rfl) ?_
      exact H
    · replace H := H.2 c8
      refine x_iload (q194c0 49 rfl) rfl ?_
      exact x_ireti (q194c0 50 rfl) zb194 H
theorem e_Mo_covers {h : am_H} {x1 : Int} {x2 : Int} {x3 : Int} {P : Int → am_H → Prop} (H : ((0 ≤ x1 ∧ x1 ≤ 3) → (((0 ≤ x2 ∧ x2 ≤ 5) → ((am_ok (h 57 2 - 1)) ∧ (((0 ≤ x3 ∧ x3 ≤ h 57 2 - 1) → (∃ h5, am_cd 3 167 [.inr (.inr 56), .inl (h 57 4)] h none h5 ∧ (∃ h7, am_cd 3 169 [.inr (.inr 56), .inl x3, .inl x1] h5 none h7 ∧ am_x (am_cd 3) 195 (am_qi P) 0 53 [some (.inr (.inr 56)), none, some (.inl x2), none, some (.inl 0), some (.inl 0)] [] h7))) ∧ ((¬(0 ≤ x3 ∧ x3 ≤ h 57 2 - 1)) → ((am_ok (h 56 3 + 1)) ∧ P (-100001) (am_up h 56 3 (h 56 3 + 1))))))) ∧ ((¬(0 ≤ x2 ∧ x2 ≤ 5)) → ((am_ok (h 56 3 + 1)) ∧ P (-100001) (am_up h 56 3 (h 56 3 + 1)))))) ∧ ((¬(0 ≤ x1 ∧ x1 ≤ 3)) → ((am_ok (h 56 3 + 1)) ∧ P (-100001) (am_up h 56 3 (h 56 3 + 1))))) : ∃ a h1, am_cd 4 195 [.inr (.inr 56), .inl x1, .inl x2, .inl x3] h (some (.inl a)) h1 ∧ P a h1 := by
  refine am_outi (d := 3) (ls := [some (.inr (.inr 56)), some (.inl x1), some (.inl x2), some (.inl x3), none, none]) rfl ab195 ml195 (Nat.le_of_ble_eq_true rfl) np195 rfl ?_
  refine x_iload_n (q195c0 0 rfl) rfl ?_
  refine x_iconst (q195c0 1 rfl) ?_
  refine x_iconst (q195c0 2 rfl) ?_
  refine x_csi (q195c0 3 rfl) rfl rfl rfl (Nat.le_of_ble_eq_true rfl) (am_lifti (Nat.le_of_ble_eq_true rfl) (e_Mo_in   ?_))
  refine ⟨fun c1 => ?_, fun c1 => ?_⟩
  · replace H := H.1 c1
    refine x_if_eq_f (q195c0 4 rfl) (by decide) ?_
    refine x_iload_n (q195c0 5 rfl) rfl ?_
    refine x_csi (q195c0 6 rfl) rfl rfl rfl (Nat.le_of_ble_eq_true rfl) (am_lifti (Nat.le_of_ble_eq_true rfl) (e_Mo_isThing   ?_))
    refine ⟨fun c2 => ?_, fun c2 => ?_⟩
    · replace H := H.1 c2
      refine x_if_eq_f (q195c0 7 rfl) (by decide) ?_
      refine x_aload_n (q195c0 8 rfl) rfl ?_
      refine x_iload_n (q195c0 9 rfl) rfl ?_
      refine x_cvi (q195c0 10 rfl) rfl oc56 rfl (Nat.le_of_ble_eq_true rfl) (am_lifti (Nat.le_of_ble_eq_true rfl) (e_Mo_isForm (r1 := h 57 2) (rfl) ?_))
      obtain ⟨s3, H⟩ := H
      refine ⟨s3, ?_⟩
      refine ⟨fun c4 => ?_, fun c4 => ?_⟩
      · replace H := H.1 c4
        refine x_if_ne_t (q195c0 11 rfl) (by decide) ?_
        refine x_aload_n (q195c0 16 rfl) rfl ?_
        refine x_aload_n (q195c0 17 rfl) rfl ?_
        refine x_getr (q195c0 18 rfl) fd56_0 ?_
        refine x_iconst (q195c0 19 rfl) ?_
        refine x_iaload (q195c0 20 rfl) (al57 _) rfl (ag_l rfl rfl (rfl)) (by decide) ?_
        obtain ⟨h5, w6, H⟩ := H
        refine x_cvv (q195c0 21 rfl) rfl oc56 rfl (Nat.le_of_ble_eq_true rfl) ⟨h5, w6, ?_⟩
        refine x_aload_n (q195c0 22 rfl) rfl ?_
        refine x_iload_n (q195c0 23 rfl) rfl ?_
        refine x_iload_n (q195c0 24 rfl) rfl ?_
        obtain ⟨h7, w8, H⟩ := H
        refine x_cvv (q195c0 25 rfl) rfl oc56 rfl (Nat.le_of_ble_eq_true rfl) ⟨h7, w8, ?_⟩
        refine x_iconst (q195c0 26 rfl) ?_
        refine x_istore (q195c0 27 rfl) ⟨Nat.le_of_ble_eq_true rfl, trivial⟩ ?_
        refine x_iconst (q195c0 28 rfl) ?_
        refine x_istore (q195c0 29 rfl) ⟨Nat.le_of_ble_eq_true rfl, trivial⟩ ?_
        exact am_x_weak (ls' := [some (.inr (.inr 56)), some (.inl x1), some (.inl x2), some (.inl x3), some (.inl 0), some (.inl 0)]) (lle_c (lle_d trivial (lle_c (lle_d trivial (lle_c (lle_c (lle_nil))))))) H
      · replace H := H.2 c4
        refine x_if_ne_f (q195c0 11 rfl) (by decide) ?_
        refine x_aload_n (q195c0 12 rfl) rfl ?_
        refine x_ldc (q195c0 13 rfl) ?_
        refine x_cvi (q195c0 14 rfl) rfl oc56 rfl (Nat.le_of_ble_eq_true rfl) (am_lifti (Nat.le_of_ble_eq_true rfl) (e_Mo_finds (r1 := h 56 3) (rfl) ?_))
        obtain ⟨s9, H⟩ := H
        refine ⟨s9, ?_⟩
        exact x_ireti (q195c0 15 rfl) zb195 H
    · replace H := H.2 c2
      refine x_if_eq_t (q195c0 7 rfl) (by decide) ?_
      refine x_aload_n (q195c0 12 rfl) rfl ?_
      refine x_ldc (q195c0 13 rfl) ?_
      refine x_cvi (q195c0 14 rfl) rfl oc56 rfl (Nat.le_of_ble_eq_true rfl) (am_lifti (Nat.le_of_ble_eq_true rfl) (e_Mo_finds (r1 := h 56 3) (rfl) ?_))
      obtain ⟨s10, H⟩ := H
      refine ⟨s10, ?_⟩
      exact x_ireti (q195c0 15 rfl) zb195 H
  · replace H := H.2 c1
    refine x_if_eq_t (q195c0 4 rfl) (by decide) ?_
    refine x_aload_n (q195c0 12 rfl) rfl ?_
    refine x_ldc (q195c0 13 rfl) ?_
    refine x_cvi (q195c0 14 rfl) rfl oc56 rfl (Nat.le_of_ble_eq_true rfl) (am_lifti (Nat.le_of_ble_eq_true rfl) (e_Mo_finds (r1 := h 56 3) (rfl) ?_))
    obtain ⟨s11, H⟩ := H
    refine ⟨s11, ?_⟩
    exact x_ireti (q195c0 15 rfl) zb195 H
theorem g_Mo_covers_53 {h : am_H} {x2 : Int} {x4 : Int} {x5 : Int} {P : Int → am_H → Prop} (H : (h 57 0 ≤ x5 → P x4 h) ∧ (x5 < h 57 0 → ((am_ok (6 * x5) ∧ am_ok (6 * x5 + x2) ∧ (0 ≤ 6 * x5 + x2 ∧ 6 * x5 + x2 < 72)) ∧ (∃ a6 h5, am_cd 3 132 [.inr (.inr 56), .inl (h 62 (6 * x5 + x2))] h (some (.inl a6)) h5 ∧ ((a6 = 0 → ((am_ok (x4 + 0) ∧ am_ok (x5 + 1)) ∧ am_x (am_cd 3) 195 (am_qi P) 0 53 [some (.inr (.inr 56)), none, some (.inl x2), none, some (.inl (x4 + 0)), some (.inl (x5 + 1))] [] h5)) ∧ (a6 ≠ 0 → ((am_ok (x4 + 1) ∧ am_ok (x5 + 1)) ∧ am_x (am_cd 3) 195 (am_qi P) 0 53 [some (.inr (.inr 56)), none, some (.inl x2), none, some (.inl (x4 + 1)), some (.inl (x5 + 1))] [] h5))))))) : am_x (am_cd 3) 195 (am_qi P) 0 53 [some (.inr (.inr 56)), none, some (.inl x2), none, some (.inl x4), some (.inl x5)] [] h := by
  refine x_iload (q195c0 30 rfl) rfl ?_
  refine x_aload_n (q195c0 31 rfl) rfl ?_
  refine x_getr (q195c0 32 rfl) fd56_0 ?_
  refine x_iconst (q195c0 33 rfl) ?_
  refine x_iaload (q195c0 34 rfl) (al57 _) rfl (ag_l rfl rfl (rfl)) (by decide) ?_
  refine x_icmp_ge (q195c0 35 rfl) (fun c1 => ?_) (fun c1 => ?_)
  · replace H := H.1 c1
    refine x_iload (q195c0 55 rfl) rfl ?_
    exact x_ireti (q195c0 56 rfl) zb195 H
  · replace H := H.2 c1
    obtain ⟨⟨s2, s3, s4⟩, H⟩ := H
    refine x_iload (q195c0 36 rfl) rfl ?_
    refine x_aload_n (q195c0 37 rfl) rfl ?_
    refine x_aload_n (q195c0 38 rfl) rfl ?_
    refine x_getr (q195c0 39 rfl) fd56_7 ?_
    refine x_bipush (q195c0 40 rfl) ?_
    refine x_iload (q195c0 41 rfl) rfl ?_
    refine x_imul (q195c0 42 rfl) s2 ?_
    refine x_iload_n (q195c0 43 rfl) rfl ?_
    refine x_iadd (q195c0 44 rfl) s3 ?_
    refine x_iaload (q195c0 45 rfl) (al62 _) rfl (ag_l rfl rfl (rfl)) s4 ?_
    obtain ⟨a6, h5, w7, H⟩ := H
    refine x_cvi (q195c0 46 rfl) rfl oc56 rfl (Nat.le_of_ble_eq_true rfl) ⟨a6, h5, w7, ?_⟩
    refine x_if_eq (q195c0 47 rfl) (fun c8 => ?_) (fun c8 => ?_)
    · replace H := H.1 c8
      obtain ⟨⟨s9, s10⟩, H⟩ := H
      refine x_iconst (q195c0 50 rfl) ?_
      refine x_iadd (q195c0 51 rfl) s9 ?_
      refine x_istore (q195c0 52 rfl) ⟨Nat.le_of_ble_eq_true rfl, trivial⟩ ?_
      refine x_iinc (q195c0 53 rfl) rfl ⟨Nat.le_of_ble_eq_true rfl, trivial⟩ s10 ?_
      refine x_goto (q195c0 54 rfl) ?_
      exact H
    · replace H := H.2 c8
      obtain ⟨⟨s11, s12⟩, H⟩ := H
      refine x_iconst (q195c0 48 rfl) ?_
      refine x_goto (q195c0 49 rfl) ?_
      refine x_iadd (q195c0 51 rfl) s11 ?_
      refine x_istore (q195c0 52 rfl) ⟨Nat.le_of_ble_eq_true rfl, trivial⟩ ?_
      refine x_iinc (q195c0 53 rfl) rfl ⟨Nat.le_of_ble_eq_true rfl, trivial⟩ s12 ?_
      refine x_goto (q195c0 54 rfl) ?_
      exact H
theorem e_Mo_border {h : am_H} {x1 : Int} {x2 : Int} {x3 : Int} {x4 : Int} {P : Int → am_H → Prop} (H : ((0 ≤ x1 ∧ x1 ≤ 5) → ((am_ok (h 57 2 - 1)) ∧ (((0 ≤ x2 ∧ x2 ≤ h 57 2 - 1) → (((0 ≤ x3 ∧ x3 ≤ h 57 2 - 1) → (((0 ≤ x4 ∧ x4 ≤ 3) → ((x2 ≠ x3 → (∃ h7, am_cd 3 167 [.inr (.inr 56), .inl (h 57 4)] h none h7 ∧ (((h7 1000 0 < 800) ∧ (am_al (am_nw h7) (am_n h7) = some 4) ∧ ((am_n h7) < 1000)) ∧ am_x (am_cd 3) 196 (am_qi P) 0 75 [some (.inr (.inr 56)), some (.inl x1), some (.inl x2), some (.inl x3), some (.inl x4), some (.inr (.inr (am_n h7))), some (.inl 0), none, none, none] [] (am_up (am_nw h7) (am_n h7) 0 (-1))))) ∧ (x2 = x3 → ((am_ok (h 56 3 + 1)) ∧ P (-100003) (am_up h 56 3 (h 56 3 + 1)))))) ∧ ((¬(0 ≤ x4 ∧ x4 ≤ 3)) → ((am_ok (h 56 3 + 1)) ∧ P (-100001) (am_up h 56 3 (h 56 3 + 1)))))) ∧ ((¬(0 ≤ x3 ∧ x3 ≤ h 57 2 - 1)) → ((am_ok (h 56 3 + 1)) ∧ P (-100001) (am_up h 56 3 (h 56 3 + 1)))))) ∧ ((¬(0 ≤ x2 ∧ x2 ≤ h 57 2 - 1)) → ((am_ok (h 56 3 + 1)) ∧ P (-100001) (am_up h 56 3 (h 56 3 + 1))))))) ∧ ((¬(0 ≤ x1 ∧ x1 ≤ 5)) → ((am_ok (h 56 3 + 1)) ∧ P (-100001) (am_up h 56 3 (h 56 3 + 1))))) : ∃ a h1, am_cd 4 196 [.inr (.inr 56), .inl x1, .inl x2, .inl x3, .inl x4] h (some (.inl a)) h1 ∧ P a h1 := by
  refine am_outb (d := 3) (ls := [some (.inr (.inr 56)), some (.inl x1), some (.inl x2), some (.inl x3), some (.inl x4), none, none, none, none, none]) rfl ab196 ml196 (Nat.le_of_ble_eq_true rfl) np196 rfl ?_
  refine x_iload_n (q196c0 0 rfl) rfl ?_
  refine x_csi (q196c0 1 rfl) rfl rfl rfl (Nat.le_of_ble_eq_true rfl) (am_lifti (Nat.le_of_ble_eq_true rfl) (e_Mo_isThing   ?_))
  refine ⟨fun c1 => ?_, fun c1 => ?_⟩
  · replace H := H.1 c1
    refine x_if_eq_f (q196c0 2 rfl) (by decide) ?_
    refine x_aload_n (q196c0 3 rfl) rfl ?_
    refine x_iload_n (q196c0 4 rfl) rfl ?_
    refine x_cvi (q196c0 5 rfl) rfl oc56 rfl (Nat.le_of_ble_eq_true rfl) (am_lifti (Nat.le_of_ble_eq_true rfl) (e_Mo_isForm (r1 := h 57 2) (rfl) ?_))
    obtain ⟨s2, H⟩ := H
    refine ⟨s2, ?_⟩
    refine ⟨fun c3 => ?_, fun c3 => ?_⟩
    · replace H := H.1 c3
      refine x_if_eq_f (q196c0 6 rfl) (by decide) ?_
      refine x_aload_n (q196c0 7 rfl) rfl ?_
      refine x_iload_n (q196c0 8 rfl) rfl ?_
      refine x_cvi (q196c0 9 rfl) rfl oc56 rfl (Nat.le_of_ble_eq_true rfl) (am_lifti (Nat.le_of_ble_eq_true rfl) (e_Mo_isForm (r1 := h 57 2) (rfl) ?_))
      refine ⟨s2, ?_⟩
      refine ⟨fun c4 => ?_, fun c4 => ?_⟩
      · replace H := H.1 c4
        refine x_if_eq_f (q196c0 10 rfl) (by decide) ?_
        refine x_iload (q196c0 11 rfl) rfl ?_
        refine x_iconst (q196c0 12 rfl) ?_
        refine x_iconst (q196c0 13 rfl) ?_
        refine x_csi (q196c0 14 rfl) rfl rfl rfl (Nat.le_of_ble_eq_true rfl) (am_lifti (Nat.le_of_ble_eq_true rfl) (e_Mo_in   ?_))
        refine ⟨fun c5 => ?_, fun c5 => ?_⟩
        · replace H := H.1 c5
          refine x_if_ne_t (q196c0 15 rfl) (by decide) ?_
          refine x_iload_n (q196c0 20 rfl) rfl ?_
          refine x_iload_n (q196c0 21 rfl) rfl ?_
          refine x_icmp_ne (q196c0 22 rfl) (fun c6 => ?_) (fun c6 => ?_)
          · replace H := H.1 c6
            refine x_aload_n (q196c0 27 rfl) rfl ?_
            refine x_aload_n (q196c0 28 rfl) rfl ?_
            refine x_getr (q196c0 29 rfl) fd56_0 ?_
            refine x_iconst (q196c0 30 rfl) ?_
            refine x_iaload (q196c0 31 rfl) (al57 _) rfl (ag_l rfl rfl (rfl)) (by decide) ?_
            obtain ⟨h7, w8, H⟩ := H
            refine x_cvv (q196c0 32 rfl) rfl oc56 rfl (Nat.le_of_ble_eq_true rfl) ⟨h7, w8, ?_⟩
            obtain ⟨⟨s9, s10, s11⟩, H⟩ := H
            refine x_iconst (q196c0 33 rfl) ?_
            refine x_newa (q196c0 34 rfl) s9 ?_
            refine x_astore (q196c0 35 rfl) ⟨Nat.le_of_ble_eq_true rfl, trivial⟩ ?_
            refine x_aload (q196c0 36 rfl) rfl ?_
            refine x_iconst (q196c0 37 rfl) ?_
            refine x_iconst (q196c0 38 rfl) ?_
            refine x_iastore (q196c0 39 rfl) s10 rfl s11 (by decide) (j := 0) rfl ?_
            refine x_iconst (q196c0 40 rfl) ?_
            refine x_istore (q196c0 41 rfl) ⟨Nat.le_of_ble_eq_true rfl, trivial⟩ ?_
            exact H
          · replace H := H.2 c6
            refine x_aload_n (q196c0 23 rfl) rfl ?_
            refine x_ldc (q196c0 24 rfl) ?_
            refine x_cvi (q196c0 25 rfl) rfl oc56 rfl (Nat.le_of_ble_eq_true rfl) (am_lifti (Nat.le_of_ble_eq_true rfl) (e_Mo_finds (r1 := h 56 3) (rfl) ?_))
            obtain ⟨s12, H⟩ := H
            refine ⟨s12, ?_⟩
            exact x_ireti (q196c0 26 rfl) zb196 H
        · replace H := H.2 c5
          refine x_if_ne_f (q196c0 15 rfl) (by decide) ?_
          refine x_aload_n (q196c0 16 rfl) rfl ?_
          refine x_ldc (q196c0 17 rfl) ?_
          refine x_cvi (q196c0 18 rfl) rfl oc56 rfl (Nat.le_of_ble_eq_true rfl) (am_lifti (Nat.le_of_ble_eq_true rfl) (e_Mo_finds (r1 := h 56 3) (rfl) ?_))
          obtain ⟨s13, H⟩ := H
          refine ⟨s13, ?_⟩
          exact x_ireti (q196c0 19 rfl) zb196 H
      · replace H := H.2 c4
        refine x_if_eq_t (q196c0 10 rfl) (by decide) ?_
        refine x_aload_n (q196c0 16 rfl) rfl ?_
        refine x_ldc (q196c0 17 rfl) ?_
        refine x_cvi (q196c0 18 rfl) rfl oc56 rfl (Nat.le_of_ble_eq_true rfl) (am_lifti (Nat.le_of_ble_eq_true rfl) (e_Mo_finds (r1 := h 56 3) (rfl) ?_))
        obtain ⟨s14, H⟩ := H
        refine ⟨s14, ?_⟩
        exact x_ireti (q196c0 19 rfl) zb196 H
    · replace H := H.2 c3
      refine x_if_eq_t (q196c0 6 rfl) (by decide) ?_
      refine x_aload_n (q196c0 16 rfl) rfl ?_
      refine x_ldc (q196c0 17 rfl) ?_
      refine x_cvi (q196c0 18 rfl) rfl oc56 rfl (Nat.le_of_ble_eq_true rfl) (am_lifti (Nat.le_of_ble_eq_true rfl) (e_Mo_finds (r1 := h 56 3) (rfl) ?_))
      obtain ⟨s15, H⟩ := H
      refine ⟨s15, ?_⟩
      exact x_ireti (q196c0 19 rfl) zb196 H
  · replace H := H.2 c1
    refine x_if_eq_t (q196c0 2 rfl) (by decide) ?_
    refine x_aload_n (q196c0 16 rfl) rfl ?_
    refine x_ldc (q196c0 17 rfl) ?_
    refine x_cvi (q196c0 18 rfl) rfl oc56 rfl (Nat.le_of_ble_eq_true rfl) (am_lifti (Nat.le_of_ble_eq_true rfl) (e_Mo_finds (r1 := h 56 3) (rfl) ?_))
    obtain ⟨s16, H⟩ := H
    refine ⟨s16, ?_⟩
    exact x_ireti (q196c0 19 rfl) zb196 H
theorem g_Mo_border_75 {h : am_H} {x1 : Int} {x2 : Int} {x3 : Int} {x4 : Int} {x6 : Int} {p5 : Nat} {P : Int → am_H → Prop} (H : (8 ≤ x6 → (((am_al h p5 = some 4) ∧ (p5 < 1000) ∧ (0 ≤ x4 ∧ x4 < 4)) ∧ P (h p5 x4) h)) ∧ (x6 < 8 → am_x (am_cd 3) 196 (am_qi P) 0 87 [some (.inr (.inr 56)), some (.inl x1), some (.inl x2), some (.inl x3), some (.inl x4), some (.inr (.inr p5)), some (.inl x6), some (.inl (-200)), none, none] [] h)) : am_x (am_cd 3) 196 (am_qi P) 0 75 [some (.inr (.inr 56)), some (.inl x1), some (.inl x2), some (.inl x3), some (.inl x4), some (.inr (.inr p5)), some (.inl x6), none, none, none] [] h := by
  refine x_iload (q196c0 42 rfl) rfl ?_
  refine x_bipush (q196c0 43 rfl) ?_
  refine x_icmp_ge (q196c0 44 rfl) (fun c1 => ?_) (fun c1 => ?_)
  · replace H := H.1 c1
    obtain ⟨⟨s2, s3, s4⟩, H⟩ := H
    refine x_aload (q196c1 36 rfl) rfl ?_
    refine x_iload (q196c1 37 rfl) rfl ?_
    refine x_iaload (q196c1 38 rfl) s2 rfl (ag_n s3 rfl (rfl)) s4 ?_
    exact x_ireti (q196c1 39 rfl) zb196 H
  · replace H := H.2 c1
    refine x_sipush (q196c0 45 rfl) ?_
    refine x_istore (q196c0 46 rfl) ⟨Nat.le_of_ble_eq_true rfl, trivial⟩ ?_
    exact H
theorem g_Mo_border_87 {h : am_H} {x1 : Int} {x2 : Int} {x3 : Int} {x4 : Int} {x6 : Int} {x7 : Int} {p5 : Nat} {P : Int → am_H → Prop} (H : (300 < x7 → ((am_ok (x6 + 1)) ∧ am_x (am_cd 3) 196 (am_qi P) 0 75 [some (.inr (.inr 56)), some (.inl x1), some (.inl x2), some (.inl x3), some (.inl x4), some (.inr (.inr p5)), some (.inl (x6 + 1)), none, none, none] [] h)) ∧ (x7 ≤ 300 → am_x (am_cd 3) 196 (am_qi P) 0 98 [some (.inr (.inr 56)), some (.inl x1), some (.inl x2), some (.inl x3), some (.inl x4), some (.inr (.inr p5)), some (.inl x6), some (.inl x7), some (.inl 0), none] [] h)) : am_x (am_cd 3) 196 (am_qi P) 0 87 [some (.inr (.inr 56)), some (.inl x1), some (.inl x2), some (.inl x3), some (.inl x4), some (.inr (.inr p5)), some (.inl x6), some (.inl x7), none, none] [] h := by
  refine x_iload (q196c0 47 rfl) rfl ?_
  refine x_sipush (q196c0 48 rfl) ?_
  refine x_icmp_gt (q196c0 49 rfl) (fun c1 => ?_) (fun c1 => ?_)
  · replace H := H.1 c1
    obtain ⟨s2, H⟩ := H
    refine x_iinc (q196c1 34 rfl) rfl ⟨Nat.le_of_ble_eq_true rfl, trivial⟩ s2 ?_
    refine x_goto (q196c1 35 rfl) ?_
    exact am_x_weak (ls' := [some (.inr (.inr 56)), some (.inl x1), some (.inl x2), some (.inl x3), some (.inl x4), some (.inr (.inr p5)), some (.inl (x6 + 1)), some (.inl x7), none, none]) (lle_c (lle_c (lle_c (lle_c (lle_c (lle_c (lle_c (lle_d trivial (lle_c (lle_c (lle_nil))))))))))) H
  · replace H := H.2 c1
    refine x_iconst (q196c0 50 rfl) ?_
    refine x_istore (q196c0 51 rfl) ⟨Nat.le_of_ble_eq_true rfl, trivial⟩ ?_
    exact H
theorem g_Mo_border_98 {h : am_H} {x1 : Int} {x2 : Int} {x3 : Int} {x4 : Int} {x6 : Int} {x7 : Int} {x8 : Int} {p5 : Nat} {P : Int → am_H → Prop} (H : (2 ≤ x8 → ((am_ok (x7 + 1)) ∧ am_x (am_cd 3) 196 (am_qi P) 0 87 [some (.inr (.inr 56)), some (.inl x1), some (.inl x2), some (.inl x3), some (.inl x4), some (.inr (.inr p5)), some (.inl x6), some (.inl (x7 + 1)), none, none] [] h)) ∧ (x8 < 2 → (∃ a4 h3, am_cd 3 133 [.inr (.inr 56), .inl x1, .inl x2, .inl x3, .inl x6, .inl x7, .inl x8] h (some (.inl a4)) h3 ∧ (((am_al h3 p5 = some 4) ∧ (p5 < 1000)) ∧ ((h3 p5 0 < 0 → (((am_al (am_up h3 p5 0 a4) p5 = some 4) ∧ (am_al (am_up (am_up h3 p5 0 a4) p5 1 x6) p5 = some 4) ∧ (am_al (am_up (am_up (am_up h3 p5 0 a4) p5 1 x6) p5 2 x7) p5 = some 4) ∧ am_ok (x8 + 1)) ∧ am_x (am_cd 3) 196 (am_qi P) 0 98 [some (.inr (.inr 56)), some (.inl x1), some (.inl x2), some (.inl x3), some (.inl x4), some (.inr (.inr p5)), some (.inl x6), some (.inl x7), some (.inl (x8 + 1)), none] [] (am_up (am_up (am_up (am_up h3 p5 0 a4) p5 1 x6) p5 2 x7) p5 3 x8))) ∧ (0 ≤ h3 p5 0 → ((a4 < h3 p5 0 → (((am_al (am_up h3 p5 0 a4) p5 = some 4) ∧ (am_al (am_up (am_up h3 p5 0 a4) p5 1 x6) p5 = some 4) ∧ (am_al (am_up (am_up (am_up h3 p5 0 a4) p5 1 x6) p5 2 x7) p5 = some 4) ∧ am_ok (x8 + 1)) ∧ am_x (am_cd 3) 196 (am_qi P) 0 98 [some (.inr (.inr 56)), some (.inl x1), some (.inl x2), some (.inl x3), some (.inl x4), some (.inr (.inr p5)), some (.inl x6), some (.inl x7), some (.inl (x8 + 1)), none] [] (am_up (am_up (am_up (am_up h3 p5 0 a4) p5 1 x6) p5 2 x7) p5 3 x8))) ∧ (h3 p5 0 ≤ a4 → ((am_ok (x8 + 1)) ∧ am_x (am_cd 3) 196 (am_qi P) 0 98 [some (.inr (.inr 56)), some (.inl x1), some (.inl x2), some (.inl x3), some (.inl x4), some (.inr (.inr p5)), some (.inl x6), some (.inl x7), some (.inl (x8 + 1)), none] [] h3))))))))) : am_x (am_cd 3) 196 (am_qi P) 0 98 [some (.inr (.inr 56)), some (.inl x1), some (.inl x2), some (.inl x3), some (.inl x4), some (.inr (.inr p5)), some (.inl x6), some (.inl x7), some (.inl x8), none] [] h := by
  refine x_iload (q196c0 52 rfl) rfl ?_
  refine x_iconst (q196c0 53 rfl) ?_
  refine x_icmp_ge (q196c0 54 rfl) (fun c1 => ?_) (fun c1 => ?_)
  · replace H := H.1 c1
    obtain ⟨s2, H⟩ := H
    refine x_iinc (q196c1 32 rfl) rfl ⟨Nat.le_of_ble_eq_true rfl, trivial⟩ s2 ?_
    refine x_goto (q196c1 33 rfl) ?_
    exact am_x_weak (ls' := [some (.inr (.inr 56)), some (.inl x1), some (.inl x2), some (.inl x3), some (.inl x4), some (.inr (.inr p5)), some (.inl x6), some (.inl (x7 + 1)), some (.inl x8), none]) (lle_c (lle_c (lle_c (lle_c (lle_c (lle_c (lle_c (lle_c (lle_d trivial (lle_c (lle_nil))))))))))) H
  · replace H := H.2 c1
    refine x_aload_n (q196c0 55 rfl) rfl ?_
    refine x_iload_n (q196c0 56 rfl) rfl ?_
    refine x_iload_n (q196c0 57 rfl) rfl ?_
    refine x_iload_n (q196c0 58 rfl) rfl ?_
    refine x_iload (q196c0 59 rfl) rfl ?_
    refine x_iload (q196c1 0 rfl) rfl ?_
    refine x_iload (q196c1 1 rfl) rfl ?_
    obtain ⟨a4, h3, w5, H⟩ := H
    refine x_cvi (q196c1 2 rfl) rfl oc56 rfl (Nat.le_of_ble_eq_true rfl) ⟨a4, h3, w5, ?_⟩
    obtain ⟨⟨s6, s7⟩, H⟩ := H
    refine x_istore (q196c1 3 rfl) ⟨Nat.le_of_ble_eq_true rfl, trivial⟩ ?_
    refine x_aload (q196c1 4 rfl) rfl ?_
    refine x_iconst (q196c1 5 rfl) ?_
    refine x_iaload (q196c1 6 rfl) s6 rfl (ag_n s7 rfl (rfl)) (by decide) ?_
    refine x_if_lt (q196c1 7 rfl) (fun c8 => ?_) (fun c8 => ?_)
    · replace H := H.1 c8
      obtain ⟨⟨s9, s10, s11, s12⟩, H⟩ := H
      refine x_aload (q196c1 14 rfl) rfl ?_
      refine x_iconst (q196c1 15 rfl) ?_
      refine x_iload (q196c1 16 rfl) rfl ?_
      refine x_iastore (q196c1 17 rfl) s6 rfl s7 (by decide) (j := 0) rfl ?_
      refine x_aload (q196c1 18 rfl) rfl ?_
      refine x_iconst (q196c1 19 rfl) ?_
      refine x_iload (q196c1 20 rfl) rfl ?_
      refine x_iastore (q196c1 21 rfl) s9 rfl s7 (by decide) (j := 1) rfl ?_
      refine x_aload (q196c1 22 rfl) rfl ?_
      refine x_iconst (q196c1 23 rfl) ?_
      refine x_iload (q196c1 24 rfl) rfl ?_
      refine x_iastore (q196c1 25 rfl) s10 rfl s7 (by decide) (j := 2) rfl ?_
      refine x_aload (q196c1 26 rfl) rfl ?_
      refine x_iconst (q196c1 27 rfl) ?_
      refine x_iload (q196c1 28 rfl) rfl ?_
      refine x_iastore (q196c1 29 rfl) s11 rfl s7 (by decide) (j := 3) rfl ?_
      refine x_iinc (q196c1 30 rfl) rfl ⟨Nat.le_of_ble_eq_true rfl, trivial⟩ s12 ?_
      refine x_goto (q196c1 31 rfl) ?_
      exact am_x_weak (ls' := [some (.inr (.inr 56)), some (.inl x1), some (.inl x2), some (.inl x3), some (.inl x4), some (.inr (.inr p5)), some (.inl x6), some (.inl x7), some (.inl (x8 + 1)), some (.inl a4)]) (lle_c (lle_c (lle_c (lle_c (lle_c (lle_c (lle_c (lle_c (lle_c (lle_d trivial (lle_nil))))))))))) H
    · replace H := H.2 c8
      refine x_iload (q196c1 8 rfl) rfl ?_
      refine x_aload (q196c1 9 rfl) rfl ?_
      refine x_iconst (q196c1 10 rfl) ?_
      refine x_iaload (q196c1 11 rfl) s6 rfl (ag_n s7 rfl (rfl)) (by decide) ?_
      refine x_icmp_lt (q196c1 12 rfl) (fun c13 => ?_) (fun c13 => ?_)
      · replace H := H.1 c13
        obtain ⟨⟨s14, s15, s16, s17⟩, H⟩ := H
        refine x_aload (q196c1 14 rfl) rfl ?_
        refine x_iconst (q196c1 15 rfl) ?_
        refine x_iload (q196c1 16 rfl) rfl ?_
        refine x_iastore (q196c1 17 rfl) s6 rfl s7 (by decide) (j := 0) rfl ?_
        refine x_aload (q196c1 18 rfl) rfl ?_
        refine x_iconst (q196c1 19 rfl) ?_
        refine x_iload (q196c1 20 rfl) rfl ?_
        refine x_iastore (q196c1 21 rfl) s14 rfl s7 (by decide) (j := 1) rfl ?_
        refine x_aload (q196c1 22 rfl) rfl ?_
        refine x_iconst (q196c1 23 rfl) ?_
        refine x_iload (q196c1 24 rfl) rfl ?_
        refine x_iastore (q196c1 25 rfl) s15 rfl s7 (by decide) (j := 2) rfl ?_
        refine x_aload (q196c1 26 rfl) rfl ?_
        refine x_iconst (q196c1 27 rfl) ?_
        refine x_iload (q196c1 28 rfl) rfl ?_
        refine x_iastore (q196c1 29 rfl) s16 rfl s7 (by decide) (j := 3) rfl ?_
        refine x_iinc (q196c1 30 rfl) rfl ⟨Nat.le_of_ble_eq_true rfl, trivial⟩ s17 ?_
        refine x_goto (q196c1 31 rfl) ?_
        exact am_x_weak (ls' := [some (.inr (.inr 56)), some (.inl x1), some (.inl x2), some (.inl x3), some (.inl x4), some (.inr (.inr p5)), some (.inl x6), some (.inl x7), some (.inl (x8 + 1)), some (.inl a4)]) (lle_c (lle_c (lle_c (lle_c (lle_c (lle_c (lle_c (lle_c (lle_c (lle_d trivial (lle_nil))))))))))) H
      · replace H := H.2 c13
        obtain ⟨s18, H⟩ := H
        refine x_goto (q196c1 13 rfl) ?_
        refine x_iinc (q196c1 30 rfl) rfl ⟨Nat.le_of_ble_eq_true rfl, trivial⟩ s18 ?_
        refine x_goto (q196c1 31 rfl) ?_
        exact am_x_weak (ls' := [some (.inr (.inr 56)), some (.inl x1), some (.inl x2), some (.inl x3), some (.inl x4), some (.inr (.inr p5)), some (.inl x6), some (.inl x7), some (.inl (x8 + 1)), some (.inl a4)]) (lle_c (lle_c (lle_c (lle_c (lle_c (lle_c (lle_c (lle_c (lle_c (lle_d trivial (lle_nil))))))))))) H
theorem e_Mo_findApart {h : am_H} {x1 : Int} {P : am_H → Prop} (H : ∃ h1, am_cd 3 167 [.inr (.inr 56), .inl x1] h none h1 ∧ am_x (am_cd 3) 197 (am_qv P) 0 7 [some (.inr (.inr 56)), none, some (.inl 0), none, none, none, none, none] [] h1) : ∃ h1, am_cd 4 197 [.inr (.inr 56), .inl x1] h none h1 ∧ P h1 := by
  refine am_outv (d := 3) (ls := [some (.inr (.inr 56)), some (.inl x1), none, none, none, none, none, none]) rfl ab197 ml197 (Nat.le_of_ble_eq_true rfl) np197 rfl ?_
  refine x_aload_n (q197c0 0 rfl) rfl ?_
  refine x_iload_n (q197c0 1 rfl) rfl ?_
  obtain ⟨h1, w2, H⟩ := H
  refine x_cvv (q197c0 2 rfl) rfl oc56 rfl (Nat.le_of_ble_eq_true rfl) ⟨h1, w2, ?_⟩
  refine x_iconst (q197c0 3 rfl) ?_
  refine x_istore_n (q197c0 4 rfl) ⟨Nat.le_of_ble_eq_true rfl, trivial⟩ ?_
  exact am_x_weak (ls' := [some (.inr (.inr 56)), some (.inl x1), some (.inl 0), none, none, none, none, none]) (lle_c (lle_d trivial (lle_c (lle_c (lle_c (lle_c (lle_c (lle_c (lle_nil))))))))) H
theorem g_Mo_findApart_7 {h : am_H} {x2 : Int} {P : am_H → Prop} (H : (h 57 2 ≤ x2 → am_x (am_cd 3) 197 (am_qv P) 0 60 [some (.inr (.inr 56)), none, some (.inl 0), none, none, none, none, none] [] h) ∧ (x2 < h 57 2 → am_x (am_cd 3) 197 (am_qv P) 0 19 [some (.inr (.inr 56)), none, some (.inl x2), some (.inl 0), none, none, none, none] [] h)) : am_x (am_cd 3) 197 (am_qv P) 0 7 [some (.inr (.inr 56)), none, some (.inl x2), none, none, none, none, none] [] h := by
  refine x_iload_n (q197c0 5 rfl) rfl ?_
  refine x_aload_n (q197c0 6 rfl) rfl ?_
  refine x_getr (q197c0 7 rfl) fd56_0 ?_
  refine x_iconst (q197c0 8 rfl) ?_
  refine x_iaload (q197c0 9 rfl) (al57 _) rfl (ag_l rfl rfl (rfl)) (by decide) ?_
  refine x_icmp_ge (q197c0 10 rfl) (fun c1 => ?_) (fun c1 => ?_)
  · replace H := H.1 c1
    refine x_iconst (q197c0 35 rfl) ?_
    refine x_istore_n (q197c0 36 rfl) ⟨Nat.le_of_ble_eq_true rfl, trivial⟩ ?_
    exact H
  · replace H := H.2 c1
    refine x_iconst (q197c0 11 rfl) ?_
    refine x_istore_n (q197c0 12 rfl) ⟨Nat.le_of_ble_eq_true rfl, trivial⟩ ?_
    exact H
theorem g_Mo_findApart_19 {h : am_H} {x2 : Int} {x3 : Int} {P : am_H → Prop} (H : (h 57 2 ≤ x3 → ((am_ok (x2 + 1)) ∧ am_x (am_cd 3) 197 (am_qv P) 0 7 [some (.inr (.inr 56)), none, some (.inl (x2 + 1)), none, none, none, none, none] [] h)) ∧ (x3 < h 57 2 → ((am_ok (30 * x2) ∧ am_ok (30 * x2 + x3)) ∧ (∃ a6 h5, am_cd 3 124 [.inr (.inr 56), .inl x2, .inl x3] h (some (.inl a6)) h5 ∧ (((0 ≤ 30 * x2 + x3 ∧ 30 * x2 + x3 < 900) ∧ am_ok (x3 + 1)) ∧ am_x (am_cd 3) 197 (am_qv P) 0 19 [some (.inr (.inr 56)), none, some (.inl x2), some (.inl (x3 + 1)), none, none, none, none] [] (am_up h5 70 (30 * x2 + x3) a6)))))) : am_x (am_cd 3) 197 (am_qv P) 0 19 [some (.inr (.inr 56)), none, some (.inl x2), some (.inl x3), none, none, none, none] [] h := by
  refine x_iload_n (q197c0 13 rfl) rfl ?_
  refine x_aload_n (q197c0 14 rfl) rfl ?_
  refine x_getr (q197c0 15 rfl) fd56_0 ?_
  refine x_iconst (q197c0 16 rfl) ?_
  refine x_iaload (q197c0 17 rfl) (al57 _) rfl (ag_l rfl rfl (rfl)) (by decide) ?_
  refine x_icmp_ge (q197c0 18 rfl) (fun c1 => ?_) (fun c1 => ?_)
  · replace H := H.1 c1
    obtain ⟨s2, H⟩ := H
    refine x_iinc (q197c0 33 rfl) rfl ⟨Nat.le_of_ble_eq_true rfl, trivial⟩ s2 ?_
    refine x_goto (q197c0 34 rfl) ?_
    exact am_x_weak (ls' := [some (.inr (.inr 56)), none, some (.inl (x2 + 1)), some (.inl x3), none, none, none, none]) (lle_c (lle_c (lle_c (lle_d trivial (lle_c (lle_c (lle_c (lle_c (lle_nil))))))))) H
  · replace H := H.2 c1
    obtain ⟨⟨s3, s4⟩, H⟩ := H
    refine x_aload_n (q197c0 19 rfl) rfl ?_
    refine x_getr (q197c0 20 rfl) fd56_18 ?_
    refine x_bipush (q197c0 21 rfl) ?_
    refine x_iload_n (q197c0 22 rfl) rfl ?_
    refine x_imul (q197c0 23 rfl) s3 ?_
    refine x_iload_n (q197c0 24 rfl) rfl ?_
    refine x_iadd (q197c0 25 rfl) s4 ?_
    refine x_aload_n (q197c0 26 rfl) rfl ?_
    refine x_iload_n (q197c0 27 rfl) rfl ?_
    refine x_iload_n (q197c0 28 rfl) rfl ?_
    obtain ⟨a6, h5, w7, H⟩ := H
    refine x_cvi (q197c0 29 rfl) rfl oc56 rfl (Nat.le_of_ble_eq_true rfl) ⟨a6, h5, w7, ?_⟩
    obtain ⟨⟨s8, s9⟩, H⟩ := H
    refine x_iastore (q197c0 30 rfl) (al70 _) rfl (Nat.le_of_ble_eq_true rfl) s8 (j := 30 * x2 + x3) rfl ?_
    refine x_iinc (q197c0 31 rfl) rfl ⟨Nat.le_of_ble_eq_true rfl, trivial⟩ s9 ?_
    refine x_goto (q197c0 32 rfl) ?_
    exact H
theorem g_Mo_findApart_60 {h : am_H} {x2 : Int} {P : am_H → Prop} (H : (h 57 0 ≤ x2 → P h) ∧ (x2 < h 57 0 → am_x (am_cd 3) 197 (am_qv P) 0 72 [some (.inr (.inr 56)), none, some (.inl x2), some (.inl 0), none, none, none, none] [] h)) : am_x (am_cd 3) 197 (am_qv P) 0 60 [some (.inr (.inr 56)), none, some (.inl x2), none, none, none, none, none] [] h := by
  refine x_iload_n (q197c0 37 rfl) rfl ?_
  refine x_aload_n (q197c0 38 rfl) rfl ?_
  refine x_getr (q197c0 39 rfl) fd56_0 ?_
  refine x_iconst (q197c0 40 rfl) ?_
  refine x_iaload (q197c0 41 rfl) (al57 _) rfl (ag_l rfl rfl (rfl)) (by decide) ?_
  refine x_icmp_ge (q197c0 42 rfl) (fun c1 => ?_) (fun c1 => ?_)
  · replace H := H.1 c1
    exact x_ret (q197c1 48 rfl) H
  · replace H := H.2 c1
    refine x_iconst (q197c0 43 rfl) ?_
    refine x_istore_n (q197c0 44 rfl) ⟨Nat.le_of_ble_eq_true rfl, trivial⟩ ?_
    exact H
theorem g_Mo_findApart_72 {h : am_H} {x2 : Int} {x3 : Int} {P : am_H → Prop} (H : (h 57 0 ≤ x3 → ((am_ok (x2 + 1)) ∧ am_x (am_cd 3) 197 (am_qv P) 0 60 [some (.inr (.inr 56)), none, some (.inl (x2 + 1)), none, none, none, none, none] [] h)) ∧ (x3 < h 57 0 → am_x (am_cd 3) 197 (am_qv P) 0 88 [some (.inr (.inr 56)), none, some (.inl x2), some (.inl x3), some (.inl 0), some (.inl 0), none, none] [] h)) : am_x (am_cd 3) 197 (am_qv P) 0 72 [some (.inr (.inr 56)), none, some (.inl x2), some (.inl x3), none, none, none, none] [] h := by
  refine x_iload_n (q197c0 45 rfl) rfl ?_
  refine x_aload_n (q197c0 46 rfl) rfl ?_
  refine x_getr (q197c0 47 rfl) fd56_0 ?_
  refine x_iconst (q197c0 48 rfl) ?_
  refine x_iaload (q197c0 49 rfl) (al57 _) rfl (ag_l rfl rfl (rfl)) (by decide) ?_
  refine x_icmp_ge (q197c0 50 rfl) (fun c1 => ?_) (fun c1 => ?_)
  · replace H := H.1 c1
    obtain ⟨s2, H⟩ := H
    refine x_iinc (q197c1 46 rfl) rfl ⟨Nat.le_of_ble_eq_true rfl, trivial⟩ s2 ?_
    refine x_goto (q197c1 47 rfl) ?_
    exact am_x_weak (ls' := [some (.inr (.inr 56)), none, some (.inl (x2 + 1)), some (.inl x3), none, none, none, none]) (lle_c (lle_c (lle_c (lle_d trivial (lle_c (lle_c (lle_c (lle_c (lle_nil))))))))) H
  · replace H := H.2 c1
    refine x_iconst (q197c0 51 rfl) ?_
    refine x_istore (q197c0 52 rfl) ⟨Nat.le_of_ble_eq_true rfl, trivial⟩ ?_
    refine x_iconst (q197c0 53 rfl) ?_
    refine x_istore (q197c0 54 rfl) ⟨Nat.le_of_ble_eq_true rfl, trivial⟩ ?_
    exact H
theorem g_Mo_findApart_88 {h : am_H} {x2 : Int} {x3 : Int} {x4 : Int} {x5 : Int} {P : am_H → Prop} (H : (6 ≤ x5 → ((am_ok (12 * x2) ∧ am_ok (12 * x2 + x3) ∧ (0 ≤ 12 * x2 + x3 ∧ 12 * x2 + x3 < 144) ∧ am_ok (x3 + 1)) ∧ am_x (am_cd 3) 197 (am_qv P) 0 72 [some (.inr (.inr 56)), none, some (.inl x2), some (.inl (x3 + 1)), none, none, none, none] [] (am_up h 69 (12 * x2 + x3) x4))) ∧ (x5 < 6 → ((am_ok (6 * x2) ∧ am_ok (6 * x2 + x5) ∧ (0 ≤ 6 * x2 + x5 ∧ 6 * x2 + x5 < 72) ∧ am_ok (6 * x3) ∧ am_ok (6 * x3 + x5) ∧ (0 ≤ 6 * x3 + x5 ∧ 6 * x3 + x5 < 72)) ∧ ((h 62 (6 * x2 + x5) < 0 → ((am_ok (x4 + 0) ∧ am_ok (x5 + 1)) ∧ am_x (am_cd 3) 197 (am_qv P) 0 88 [some (.inr (.inr 56)), none, some (.inl x2), some (.inl x3), some (.inl (x4 + 0)), some (.inl (x5 + 1)), none, none] [] h)) ∧ (0 ≤ h 62 (6 * x2 + x5) → ((0 ≤ h 62 (6 * x3 + x5) → ((am_ok (30 * h 62 (6 * x2 + x5)) ∧ am_ok (30 * h 62 (6 * x2 + x5) + h 62 (6 * x3 + x5)) ∧ (0 ≤ 30 * h 62 (6 * x2 + x5) + h 62 (6 * x3 + x5) ∧ 30 * h 62 (6 * x2 + x5) + h 62 (6 * x3 + x5) < 900) ∧ am_ok (x4 + h 70 (30 * h 62 (6 * x2 + x5) + h 62 (6 * x3 + x5))) ∧ am_ok (x5 + 1)) ∧ am_x (am_cd 3) 197 (am_qv P) 0 88 [some (.inr (.inr 56)), none, some (.inl x2), some (.inl x3), some (.inl (x4 + h 70 (30 * h 62 (6 * x2 + x5) + h 62 (6 * x3 + x5)))), some (.inl (x5 + 1)), none, none] [] h)) ∧ (h 62 (6 * x3 + x5) < 0 → ((am_ok (x4 + 0) ∧ am_ok (x5 + 1)) ∧ am_x (am_cd 3) 197 (am_qv P) 0 88 [some (.inr (.inr 56)), none, some (.inl x2), some (.inl x3), some (.inl (x4 + 0)), some (.inl (x5 + 1)), none, none] [] h)))))))) : am_x (am_cd 3) 197 (am_qv P) 0 88 [some (.inr (.inr 56)), none, some (.inl x2), some (.inl x3), some (.inl x4), some (.inl x5), none, none] [] h := by
  refine x_iload (q197c0 55 rfl) rfl ?_
  refine x_bipush (q197c0 56 rfl) ?_
  refine x_icmp_ge (q197c0 57 rfl) (fun c1 => ?_) (fun c1 => ?_)
  · replace H := H.1 c1
    obtain ⟨⟨s2, s3, s4, s5⟩, H⟩ := H
    refine x_aload_n (q197c1 35 rfl) rfl ?_
    refine x_getr (q197c1 36 rfl) fd56_17 ?_
    refine x_bipush (q197c1 37 rfl) ?_
    refine x_iload_n (q197c1 38 rfl) rfl ?_
    refine x_imul (q197c1 39 rfl) s2 ?_
    refine x_iload_n (q197c1 40 rfl) rfl ?_
    refine x_iadd (q197c1 41 rfl) s3 ?_
    refine x_iload (q197c1 42 rfl) rfl ?_
    refine x_iastore (q197c1 43 rfl) (al69 _) rfl (Nat.le_of_ble_eq_true rfl) s4 (j := 12 * x2 + x3) rfl ?_
    refine x_iinc (q197c1 44 rfl) rfl ⟨Nat.le_of_ble_eq_true rfl, trivial⟩ s5 ?_
    refine x_goto (q197c1 45 rfl) ?_
    exact am_x_weak (ls' := [some (.inr (.inr 56)), none, some (.inl x2), some (.inl (x3 + 1)), some (.inl x4), some (.inl x5), none, none]) (lle_c (lle_c (lle_c (lle_c (lle_d trivial (lle_d trivial (lle_c (lle_c (lle_nil))))))))) H
  · replace H := H.2 c1
    obtain ⟨⟨s6, s7, s8, s9, s10, s11⟩, H⟩ := H
    refine x_aload_n (q197c0 58 rfl) rfl ?_
    refine x_getr (q197c0 59 rfl) fd56_7 ?_
    refine x_bipush (q197c1 0 rfl) ?_
    refine x_iload_n (q197c1 1 rfl) rfl ?_
    refine x_imul (q197c1 2 rfl) s6 ?_
    refine x_iload (q197c1 3 rfl) rfl ?_
    refine x_iadd (q197c1 4 rfl) s7 ?_
    refine x_iaload (q197c1 5 rfl) (al62 _) rfl (ag_l rfl rfl (rfl)) s8 ?_
    refine x_istore (q197c1 6 rfl) ⟨Nat.le_of_ble_eq_true rfl, trivial⟩ ?_
    refine x_aload_n (q197c1 7 rfl) rfl ?_
    refine x_getr (q197c1 8 rfl) fd56_7 ?_
    refine x_bipush (q197c1 9 rfl) ?_
    refine x_iload_n (q197c1 10 rfl) rfl ?_
    refine x_imul (q197c1 11 rfl) s9 ?_
    refine x_iload (q197c1 12 rfl) rfl ?_
    refine x_iadd (q197c1 13 rfl) s10 ?_
    refine x_iaload (q197c1 14 rfl) (al62 _) rfl (ag_l rfl rfl (rfl)) s11 ?_
    refine x_istore (q197c1 15 rfl) ⟨Nat.le_of_ble_eq_true rfl, trivial⟩ ?_
    refine x_iload (q197c1 16 rfl) rfl ?_
    refine x_iload (q197c1 17 rfl) rfl ?_
    refine x_if_lt (q197c1 18 rfl) (fun c12 => ?_) (fun c12 => ?_)
    · replace H := H.1 c12
      obtain ⟨⟨s13, s14⟩, H⟩ := H
      refine x_iconst (q197c1 21 rfl) ?_
      refine x_goto (q197c1 22 rfl) ?_
      refine x_iadd (q197c1 31 rfl) s13 ?_
      refine x_istore (q197c1 32 rfl) ⟨Nat.le_of_ble_eq_true rfl, trivial⟩ ?_
      refine x_iinc (q197c1 33 rfl) rfl ⟨Nat.le_of_ble_eq_true rfl, trivial⟩ s14 ?_
      refine x_goto (q197c1 34 rfl) ?_
      exact am_x_weak (ls' := [some (.inr (.inr 56)), none, some (.inl x2), some (.inl x3), some (.inl (x4 + 0)), some (.inl (x5 + 1)), some (.inl (h 62 (6 * x2 + x5))), some (.inl (h 62 (6 * x3 + x5)))]) (lle_c (lle_c (lle_c (lle_c (lle_c (lle_c (lle_d trivial (lle_d trivial (lle_nil))))))))) H
    · replace H := H.2 c12
      refine x_iload (q197c1 19 rfl) rfl ?_
      refine x_if_ge (q197c1 20 rfl) (fun c15 => ?_) (fun c15 => ?_)
      · replace H := H.1 c15
        obtain ⟨⟨s16, s17, s18, s19, s20⟩, H⟩ := H
        refine x_aload_n (q197c1 23 rfl) rfl ?_
        refine x_getr (q197c1 24 rfl) fd56_18 ?_
        refine x_bipush (q197c1 25 rfl) ?_
        refine x_iload (q197c1 26 rfl) rfl ?_
        refine x_imul (q197c1 27 rfl) s16 ?_
        refine x_iload (q197c1 28 rfl) rfl ?_
        refine x_iadd (q197c1 29 rfl) s17 ?_
        refine x_iaload (q197c1 30 rfl) (al70 _) rfl (ag_l rfl rfl (rfl)) s18 ?_
        refine x_iadd (q197c1 31 rfl) s19 ?_
        refine x_istore (q197c1 32 rfl) ⟨Nat.le_of_ble_eq_true rfl, trivial⟩ ?_
        refine x_iinc (q197c1 33 rfl) rfl ⟨Nat.le_of_ble_eq_true rfl, trivial⟩ s20 ?_
        refine x_goto (q197c1 34 rfl) ?_
        exact am_x_weak (ls' := [some (.inr (.inr 56)), none, some (.inl x2), some (.inl x3), some (.inl (x4 + h 70 (30 * h 62 (6 * x2 + x5) + h 62 (6 * x3 + x5)))), some (.inl (x5 + 1)), some (.inl (h 62 (6 * x2 + x5))), some (.inl (h 62 (6 * x3 + x5)))]) (lle_c (lle_c (lle_c (lle_c (lle_c (lle_c (lle_d trivial (lle_d trivial (lle_nil))))))))) H
      · replace H := H.2 c15
        obtain ⟨⟨s21, s22⟩, H⟩ := H
        refine x_iconst (q197c1 21 rfl) ?_
        refine x_goto (q197c1 22 rfl) ?_
        refine x_iadd (q197c1 31 rfl) s21 ?_
        refine x_istore (q197c1 32 rfl) ⟨Nat.le_of_ble_eq_true rfl, trivial⟩ ?_
        refine x_iinc (q197c1 33 rfl) rfl ⟨Nat.le_of_ble_eq_true rfl, trivial⟩ s22 ?_
        refine x_goto (q197c1 34 rfl) ?_
        exact am_x_weak (ls' := [some (.inr (.inr 56)), none, some (.inl x2), some (.inl x3), some (.inl (x4 + 0)), some (.inl (x5 + 1)), some (.inl (h 62 (6 * x2 + x5))), some (.inl (h 62 (6 * x3 + x5)))]) (lle_c (lle_c (lle_c (lle_c (lle_c (lle_c (lle_d trivial (lle_d trivial (lle_nil))))))))) H
theorem e_Mo_next {h : am_H} {x1 : Int} {P : Int → am_H → Prop} (H : ((0 ≤ x1 ∧ x1 ≤ 5) → (∃ h2, am_cd 3 167 [.inr (.inr 56), .inl (h 57 4)] h none h2 ∧ am_x (am_cd 3) 198 (am_qi P) 0 31 [some (.inr (.inr 56)), some (.inl x1), some (.inl (-1)), some (.inl 0), some (.inl 0), none, none] [] h2)) ∧ ((¬(0 ≤ x1 ∧ x1 ≤ 5)) → ((am_ok (h 56 3 + 1)) ∧ P (-100001) (am_up h 56 3 (h 56 3 + 1))))) : ∃ a h1, am_cd 4 198 [.inr (.inr 56), .inl x1] h (some (.inl a)) h1 ∧ P a h1 := by
  refine am_outi (d := 3) (ls := [some (.inr (.inr 56)), some (.inl x1), none, none, none, none, none]) rfl ab198 ml198 (Nat.le_of_ble_eq_true rfl) np198 rfl ?_
  refine x_iload_n (q198c0 0 rfl) rfl ?_
  refine x_csi (q198c0 1 rfl) rfl rfl rfl (Nat.le_of_ble_eq_true rfl) (am_lifti (Nat.le_of_ble_eq_true rfl) (e_Mo_isThing   ?_))
  refine ⟨fun c1 => ?_, fun c1 => ?_⟩
  · replace H := H.1 c1
    refine x_if_ne_t (q198c0 2 rfl) (by decide) ?_
    refine x_aload_n (q198c0 7 rfl) rfl ?_
    refine x_aload_n (q198c0 8 rfl) rfl ?_
    refine x_getr (q198c0 9 rfl) fd56_0 ?_
    refine x_iconst (q198c0 10 rfl) ?_
    refine x_iaload (q198c0 11 rfl) (al57 _) rfl (ag_l rfl rfl (rfl)) (by decide) ?_
    obtain ⟨h2, w3, H⟩ := H
    refine x_cvv (q198c0 12 rfl) rfl oc56 rfl (Nat.le_of_ble_eq_true rfl) ⟨h2, w3, ?_⟩
    refine x_iconst (q198c0 13 rfl) ?_
    refine x_istore_n (q198c0 14 rfl) ⟨Nat.le_of_ble_eq_true rfl, trivial⟩ ?_
    refine x_iconst (q198c0 15 rfl) ?_
    refine x_istore_n (q198c0 16 rfl) ⟨Nat.le_of_ble_eq_true rfl, trivial⟩ ?_
    refine x_iconst (q198c0 17 rfl) ?_
    refine x_istore (q198c0 18 rfl) ⟨Nat.le_of_ble_eq_true rfl, trivial⟩ ?_
    exact H
  · replace H := H.2 c1
    refine x_if_ne_f (q198c0 2 rfl) (by decide) ?_
    refine x_aload_n (q198c0 3 rfl) rfl ?_
    refine x_ldc (q198c0 4 rfl) ?_
    refine x_cvi (q198c0 5 rfl) rfl oc56 rfl (Nat.le_of_ble_eq_true rfl) (am_lifti (Nat.le_of_ble_eq_true rfl) (e_Mo_finds (r1 := h 56 3) (rfl) ?_))
    obtain ⟨s4, H⟩ := H
    refine ⟨s4, ?_⟩
    exact x_ireti (q198c0 6 rfl) zb198 H
theorem g_Mo_next_31 {h : am_H} {x1 : Int} {x2 : Int} {x3 : Int} {x4 : Int} {P : Int → am_H → Prop} (H : (h 57 0 ≤ x4 → ((0 ≤ x2 → P x2 h) ∧ (x2 < 0 → ((am_ok (h 56 3 + 1)) ∧ P (-100006) (am_up h 56 3 (h 56 3 + 1)))))) ∧ (x4 < h 57 0 → ((am_ok (6 * x4) ∧ am_ok (6 * x4 + x1) ∧ (0 ≤ 6 * x4 + x1 ∧ 6 * x4 + x1 < 72)) ∧ ((h 62 (6 * x4 + x1) < 0 → (∃ h8, am_cd 3 120 [.inr (.inr 56), .inl x4] h none h8 ∧ am_x (am_cd 3) 198 (am_qi P) 0 73 [some (.inr (.inr 56)), some (.inl x1), some (.inl x2), some (.inl x3), some (.inl x4), some (.inl 1000000), some (.inl 0)] [] h8)) ∧ (0 ≤ h 62 (6 * x4 + x1) → ((am_ok (x4 + 1)) ∧ am_x (am_cd 3) 198 (am_qi P) 0 31 [some (.inr (.inr 56)), some (.inl x1), some (.inl x2), some (.inl x3), some (.inl (x4 + 1)), none, none] [] h)))))) : am_x (am_cd 3) 198 (am_qi P) 0 31 [some (.inr (.inr 56)), some (.inl x1), some (.inl x2), some (.inl x3), some (.inl x4), none, none] [] h := by
  refine x_iload (q198c0 19 rfl) rfl ?_
  refine x_aload_n (q198c0 20 rfl) rfl ?_
  refine x_getr (q198c0 21 rfl) fd56_0 ?_
  refine x_iconst (q198c0 22 rfl) ?_
  refine x_iaload (q198c0 23 rfl) (al57 _) rfl (ag_l rfl rfl (rfl)) (by decide) ?_
  refine x_icmp_ge (q198c0 24 rfl) (fun c1 => ?_) (fun c1 => ?_)
  · replace H := H.1 c1
    refine x_iload_n (q198c1 39 rfl) rfl ?_
    refine x_if_ge (q198c1 40 rfl) (fun c2 => ?_) (fun c2 => ?_)
    · replace H := H.1 c2
      refine x_iload_n (q198c1 45 rfl) rfl ?_
      exact x_ireti (q198c1 46 rfl) zb198 H
    · replace H := H.2 c2
      refine x_aload_n (q198c1 41 rfl) rfl ?_
      refine x_ldc (q198c1 42 rfl) ?_
      refine x_cvi (q198c1 43 rfl) rfl oc56 rfl (Nat.le_of_ble_eq_true rfl) (am_lifti (Nat.le_of_ble_eq_true rfl) (e_Mo_finds (r1 := h 56 3) (rfl) ?_))
      obtain ⟨s3, H⟩ := H
      refine ⟨s3, ?_⟩
      refine x_goto (q198c1 44 rfl) ?_
      exact x_ireti (q198c1 46 rfl) zb198 H
  · replace H := H.2 c1
    obtain ⟨⟨s4, s5, s6⟩, H⟩ := H
    refine x_aload_n (q198c0 25 rfl) rfl ?_
    refine x_getr (q198c0 26 rfl) fd56_7 ?_
    refine x_bipush (q198c0 27 rfl) ?_
    refine x_iload (q198c0 28 rfl) rfl ?_
    refine x_imul (q198c0 29 rfl) s4 ?_
    refine x_iload_n (q198c0 30 rfl) rfl ?_
    refine x_iadd (q198c0 31 rfl) s5 ?_
    refine x_iaload (q198c0 32 rfl) (al62 _) rfl (ag_l rfl rfl (rfl)) s6 ?_
    refine x_if_lt (q198c0 33 rfl) (fun c7 => ?_) (fun c7 => ?_)
    · replace H := H.1 c7
      refine x_aload_n (q198c0 35 rfl) rfl ?_
      refine x_iload (q198c0 36 rfl) rfl ?_
      obtain ⟨h8, w9, H⟩ := H
      refine x_cvv (q198c0 37 rfl) rfl oc56 rfl (Nat.le_of_ble_eq_true rfl) ⟨h8, w9, ?_⟩
      refine x_ldc (q198c0 38 rfl) ?_
      refine x_istore (q198c0 39 rfl) ⟨Nat.le_of_ble_eq_true rfl, trivial⟩ ?_
      refine x_iconst (q198c0 40 rfl) ?_
      refine x_istore (q198c0 41 rfl) ⟨Nat.le_of_ble_eq_true rfl, trivial⟩ ?_
      exact H
    · replace H := H.2 c7
      obtain ⟨s10, H⟩ := H
      refine x_goto (q198c0 34 rfl) ?_
      refine x_iinc (q198c1 37 rfl) rfl ⟨Nat.le_of_ble_eq_true rfl, trivial⟩ s10 ?_
      refine x_goto (q198c1 38 rfl) ?_
      exact H
theorem g_Mo_next_73 {h : am_H} {x1 : Int} {x2 : Int} {x3 : Int} {x4 : Int} {x5 : Int} {x6 : Int} {P : Int → am_H → Prop} (H : (h 57 0 ≤ x6 → ((x2 < 0 → ((am_ok (x4 + 1)) ∧ am_x (am_cd 3) 198 (am_qi P) 0 31 [some (.inr (.inr 56)), some (.inl x1), some (.inl x4), some (.inl x5), some (.inl (x4 + 1)), none, none] [] h)) ∧ (0 ≤ x2 → ((x5 < x3 → ((am_ok (x4 + 1)) ∧ am_x (am_cd 3) 198 (am_qi P) 0 31 [some (.inr (.inr 56)), some (.inl x1), some (.inl x2), some (.inl x3), some (.inl (x4 + 1)), none, none] [] h)) ∧ (x3 ≤ x5 → ((x5 ≠ x3 → ((am_ok (x4 + 1)) ∧ am_x (am_cd 3) 198 (am_qi P) 0 31 [some (.inr (.inr 56)), some (.inl x1), some (.inl x4), some (.inl x5), some (.inl (x4 + 1)), none, none] [] h)) ∧ (x5 = x3 → ((am_ok (3 * x4) ∧ am_ok (10 + 3 * x4) ∧ am_ok (10 + 3 * x4 + 2) ∧ (0 ≤ 10 + 3 * x4 + 2 ∧ 10 + 3 * x4 + 2 < 820)) ∧ ((am_ok (3 * x2) ∧ am_ok (10 + 3 * x2) ∧ am_ok (10 + 3 * x2 + 2) ∧ (0 ≤ 10 + 3 * x2 + 2 ∧ 10 + 3 * x2 + 2 < 820)) ∧ ((h 57 (12 + 3 * x2) < h 57 (12 + 3 * x4) → ((am_ok (x4 + 1)) ∧ am_x (am_cd 3) 198 (am_qi P) 0 31 [some (.inr (.inr 56)), some (.inl x1), some (.inl x4), some (.inl x5), some (.inl (x4 + 1)), none, none] [] h)) ∧ (h 57 (12 + 3 * x4) ≤ h 57 (12 + 3 * x2) → ((am_ok (x4 + 1)) ∧ am_x (am_cd 3) 198 (am_qi P) 0 31 [some (.inr (.inr 56)), some (.inl x1), some (.inl x2), some (.inl x3), some (.inl (x4 + 1)), none, none] [] h)))))))))))) ∧ (x6 < h 57 0 → ((am_ok (6 * x6) ∧ am_ok (6 * x6 + x1) ∧ (0 ≤ 6 * x6 + x1 ∧ 6 * x6 + x1 < 72)) ∧ ((h 62 (6 * x6 + x1) < 0 → ((am_ok (x6 + 1)) ∧ am_x (am_cd 3) 198 (am_qi P) 0 73 [some (.inr (.inr 56)), some (.inl x1), some (.inl x2), some (.inl x3), some (.inl x4), some (.inl x5), some (.inl (x6 + 1))] [] h)) ∧ (0 ≤ h 62 (6 * x6 + x1) → ((0 ≤ x6 ∧ x6 < 12) ∧ ((h 59 x6 < 0 → ((am_ok (x6 + 1)) ∧ am_x (am_cd 3) 198 (am_qi P) 0 73 [some (.inr (.inr 56)), some (.inl x1), some (.inl x2), some (.inl x3), some (.inl x4), some (.inl x5), some (.inl (x6 + 1))] [] h)) ∧ (0 ≤ h 59 x6 → ((x5 ≤ h 59 x6 → ((am_ok (x6 + 1)) ∧ am_x (am_cd 3) 198 (am_qi P) 0 73 [some (.inr (.inr 56)), some (.inl x1), some (.inl x2), some (.inl x3), some (.inl x4), some (.inl x5), some (.inl (x6 + 1))] [] h)) ∧ (h 59 x6 < x5 → ((am_ok (x6 + 1)) ∧ am_x (am_cd 3) 198 (am_qi P) 0 73 [some (.inr (.inr 56)), some (.inl x1), some (.inl x2), some (.inl x3), some (.inl x4), some (.inl (h 59 x6)), some (.inl (x6 + 1))] [] h))))))))))) : am_x (am_cd 3) 198 (am_qi P) 0 73 [some (.inr (.inr 56)), some (.inl x1), some (.inl x2), some (.inl x3), some (.inl x4), some (.inl x5), some (.inl x6)] [] h := by
  refine x_iload (q198c0 42 rfl) rfl ?_
  refine x_aload_n (q198c0 43 rfl) rfl ?_
  refine x_getr (q198c0 44 rfl) fd56_0 ?_
  refine x_iconst (q198c0 45 rfl) ?_
  refine x_iaload (q198c0 46 rfl) (al57 _) rfl (ag_l rfl rfl (rfl)) (by decide) ?_
  refine x_icmp_ge (q198c0 47 rfl) (fun c1 => ?_) (fun c1 => ?_)
  · replace H := H.1 c1
    refine x_iload_n (q198c1 17 rfl) rfl ?_
    refine x_if_lt (q198c1 18 rfl) (fun c2 => ?_) (fun c2 => ?_)
    · replace H := H.1 c2
      obtain ⟨s3, H⟩ := H
      refine x_iload (q198c1 33 rfl) rfl ?_
      refine x_istore_n (q198c1 34 rfl) ⟨Nat.le_of_ble_eq_true rfl, trivial⟩ ?_
      refine x_iload (q198c1 35 rfl) rfl ?_
      refine x_istore_n (q198c1 36 rfl) ⟨Nat.le_of_ble_eq_true rfl, trivial⟩ ?_
      refine x_iinc (q198c1 37 rfl) rfl ⟨Nat.le_of_ble_eq_true rfl, trivial⟩ s3 ?_
      refine x_goto (q198c1 38 rfl) ?_
      exact am_x_weak (ls' := [some (.inr (.inr 56)), some (.inl x1), some (.inl x4), some (.inl x5), some (.inl (x4 + 1)), some (.inl x5), some (.inl x6)]) (lle_c (lle_c (lle_c (lle_c (lle_c (lle_d trivial (lle_d trivial (lle_nil)))))))) H
    · replace H := H.2 c2
      refine x_iload (q198c1 19 rfl) rfl ?_
      refine x_iload_n (q198c1 20 rfl) rfl ?_
      refine x_icmp_lt (q198c1 21 rfl) (fun c4 => ?_) (fun c4 => ?_)
      · replace H := H.1 c4
        obtain ⟨s5, H⟩ := H
        refine x_iinc (q198c1 37 rfl) rfl ⟨Nat.le_of_ble_eq_true rfl, trivial⟩ s5 ?_
        refine x_goto (q198c1 38 rfl) ?_
        exact am_x_weak (ls' := [some (.inr (.inr 56)), some (.inl x1), some (.inl x2), some (.inl x3), some (.inl (x4 + 1)), some (.inl x5), some (.inl x6)]) (lle_c (lle_c (lle_c (lle_c (lle_c (lle_d trivial (lle_d trivial (lle_nil)))))))) H
      · replace H := H.2 c4
        refine x_iload (q198c1 22 rfl) rfl ?_
        refine x_iload_n (q198c1 23 rfl) rfl ?_
        refine x_icmp_ne (q198c1 24 rfl) (fun c6 => ?_) (fun c6 => ?_)
        · replace H := H.1 c6
          obtain ⟨s7, H⟩ := H
          refine x_iload (q198c1 33 rfl) rfl ?_
          refine x_istore_n (q198c1 34 rfl) ⟨Nat.le_of_ble_eq_true rfl, trivial⟩ ?_
          refine x_iload (q198c1 35 rfl) rfl ?_
          refine x_istore_n (q198c1 36 rfl) ⟨Nat.le_of_ble_eq_true rfl, trivial⟩ ?_
          refine x_iinc (q198c1 37 rfl) rfl ⟨Nat.le_of_ble_eq_true rfl, trivial⟩ s7 ?_
          refine x_goto (q198c1 38 rfl) ?_
          exact am_x_weak (ls' := [some (.inr (.inr 56)), some (.inl x1), some (.inl x4), some (.inl x5), some (.inl (x4 + 1)), some (.inl x5), some (.inl x6)]) (lle_c (lle_c (lle_c (lle_c (lle_c (lle_d trivial (lle_d trivial (lle_nil)))))))) H
        · replace H := H.2 c6
          refine x_aload_n (q198c1 25 rfl) rfl ?_
          refine x_iload (q198c1 26 rfl) rfl ?_
          refine x_cvi (q198c1 27 rfl) rfl oc56 rfl (Nat.le_of_ble_eq_true rfl) (am_lifti (Nat.le_of_ble_eq_true rfl) (e_Mo_folk (r1 := h 57 (12 + 3 * x4)) (rfl) ?_))
          obtain ⟨⟨s8, s9, s10, s11⟩, H⟩ := H
          refine ⟨⟨s8, s9, s10, s11⟩, ?_⟩
          refine x_aload_n (q198c1 28 rfl) rfl ?_
          refine x_iload_n (q198c1 29 rfl) rfl ?_
          refine x_cvi (q198c1 30 rfl) rfl oc56 rfl (Nat.le_of_ble_eq_true rfl) (am_lifti (Nat.le_of_ble_eq_true rfl) (e_Mo_folk (r1 := h 57 (12 + 3 * x2)) (rfl) ?_))
          obtain ⟨⟨s12, s13, s14, s15⟩, H⟩ := H
          refine ⟨⟨s12, s13, s14, s15⟩, ?_⟩
          refine x_icmp_gt (q198c1 31 rfl) (fun c16 => ?_) (fun c16 => ?_)
          · replace H := H.1 c16
            obtain ⟨s17, H⟩ := H
            refine x_iload (q198c1 33 rfl) rfl ?_
            refine x_istore_n (q198c1 34 rfl) ⟨Nat.le_of_ble_eq_true rfl, trivial⟩ ?_
            refine x_iload (q198c1 35 rfl) rfl ?_
            refine x_istore_n (q198c1 36 rfl) ⟨Nat.le_of_ble_eq_true rfl, trivial⟩ ?_
            refine x_iinc (q198c1 37 rfl) rfl ⟨Nat.le_of_ble_eq_true rfl, trivial⟩ s17 ?_
            refine x_goto (q198c1 38 rfl) ?_
            exact am_x_weak (ls' := [some (.inr (.inr 56)), some (.inl x1), some (.inl x4), some (.inl x5), some (.inl (x4 + 1)), some (.inl x5), some (.inl x6)]) (lle_c (lle_c (lle_c (lle_c (lle_c (lle_d trivial (lle_d trivial (lle_nil)))))))) H
          · replace H := H.2 c16
            obtain ⟨s18, H⟩ := H
            refine x_goto (q198c1 32 rfl) ?_
            refine x_iinc (q198c1 37 rfl) rfl ⟨Nat.le_of_ble_eq_true rfl, trivial⟩ s18 ?_
            refine x_goto (q198c1 38 rfl) ?_
            exact am_x_weak (ls' := [some (.inr (.inr 56)), some (.inl x1), some (.inl x2), some (.inl x3), some (.inl (x4 + 1)), some (.inl x5), some (.inl x6)]) (lle_c (lle_c (lle_c (lle_c (lle_c (lle_d trivial (lle_d trivial (lle_nil)))))))) H
  · replace H := H.2 c1
    obtain ⟨⟨s19, s20, s21⟩, H⟩ := H
    refine x_aload_n (q198c0 48 rfl) rfl ?_
    refine x_getr (q198c0 49 rfl) fd56_7 ?_
    refine x_bipush (q198c0 50 rfl) ?_
    refine x_iload (q198c0 51 rfl) rfl ?_
    refine x_imul (q198c0 52 rfl) s19 ?_
    refine x_iload_n (q198c0 53 rfl) rfl ?_
    refine x_iadd (q198c0 54 rfl) s20 ?_
    refine x_iaload (q198c0 55 rfl) (al62 _) rfl (ag_l rfl rfl (rfl)) s21 ?_
    refine x_if_lt (q198c0 56 rfl) (fun c22 => ?_) (fun c22 => ?_)
    · replace H := H.1 c22
      obtain ⟨s23, H⟩ := H
      refine x_iload (q198c1 13 rfl) rfl ?_
      refine x_istore (q198c1 14 rfl) ⟨Nat.le_of_ble_eq_true rfl, trivial⟩ ?_
      refine x_iinc (q198c1 15 rfl) rfl ⟨Nat.le_of_ble_eq_true rfl, trivial⟩ s23 ?_
      refine x_goto (q198c1 16 rfl) ?_
      exact H
    · replace H := H.2 c22
      obtain ⟨s24, H⟩ := H
      refine x_aload_n (q198c0 57 rfl) rfl ?_
      refine x_getr (q198c0 58 rfl) fd56_4 ?_
      refine x_iload (q198c0 59 rfl) rfl ?_
      refine x_iaload (q198c1 0 rfl) (al59 _) rfl (ag_l rfl rfl (rfl)) s24 ?_
      refine x_if_lt (q198c1 1 rfl) (fun c25 => ?_) (fun c25 => ?_)
      · replace H := H.1 c25
        obtain ⟨s26, H⟩ := H
        refine x_iload (q198c1 13 rfl) rfl ?_
        refine x_istore (q198c1 14 rfl) ⟨Nat.le_of_ble_eq_true rfl, trivial⟩ ?_
        refine x_iinc (q198c1 15 rfl) rfl ⟨Nat.le_of_ble_eq_true rfl, trivial⟩ s26 ?_
        refine x_goto (q198c1 16 rfl) ?_
        exact H
      · replace H := H.2 c25
        refine x_aload_n (q198c1 2 rfl) rfl ?_
        refine x_getr (q198c1 3 rfl) fd56_4 ?_
        refine x_iload (q198c1 4 rfl) rfl ?_
        refine x_iaload (q198c1 5 rfl) (al59 _) rfl (ag_l rfl rfl (rfl)) s24 ?_
        refine x_iload (q198c1 6 rfl) rfl ?_
        refine x_icmp_ge (q198c1 7 rfl) (fun c27 => ?_) (fun c27 => ?_)
        · replace H := H.1 c27
          obtain ⟨s28, H⟩ := H
          refine x_iload (q198c1 13 rfl) rfl ?_
          refine x_istore (q198c1 14 rfl) ⟨Nat.le_of_ble_eq_true rfl, trivial⟩ ?_
          refine x_iinc (q198c1 15 rfl) rfl ⟨Nat.le_of_ble_eq_true rfl, trivial⟩ s28 ?_
          refine x_goto (q198c1 16 rfl) ?_
          exact H
        · replace H := H.2 c27
          obtain ⟨s29, H⟩ := H
          refine x_aload_n (q198c1 8 rfl) rfl ?_
          refine x_getr (q198c1 9 rfl) fd56_4 ?_
          refine x_iload (q198c1 10 rfl) rfl ?_
          refine x_iaload (q198c1 11 rfl) (al59 _) rfl (ag_l rfl rfl (rfl)) s24 ?_
          refine x_goto (q198c1 12 rfl) ?_
          refine x_istore (q198c1 14 rfl) ⟨Nat.le_of_ble_eq_true rfl, trivial⟩ ?_
          refine x_iinc (q198c1 15 rfl) rfl ⟨Nat.le_of_ble_eq_true rfl, trivial⟩ s29 ?_
          refine x_goto (q198c1 16 rfl) ?_
          exact H
theorem e_Mo_foretold {h : am_H} {x1 : Int} {x2 : Int} {P : Int → am_H → Prop} (H : (am_ok (h 57 0 - 1)) ∧ (((0 ≤ x1 ∧ x1 ≤ h 57 0 - 1) → (((0 ≤ x2 ∧ x2 ≤ 5) → (∃ h4, am_cd 3 167 [.inr (.inr 56), .inl (h 57 4)] h none h4 ∧ (∃ h6, am_cd 3 120 [.inr (.inr 56), .inl x1] h4 none h6 ∧ am_x (am_cd 3) 199 (am_qi P) 0 45 [some (.inr (.inr 56)), some (.inl x1), some (.inl x2), some (.inl (-1)), some (.inl (-1)), some (.inl 0), none, none, none] [] h6))) ∧ ((¬(0 ≤ x2 ∧ x2 ≤ 5)) → ((am_ok (h 56 3 + 1)) ∧ P (-100001) (am_up h 56 3 (h 56 3 + 1)))))) ∧ ((¬(0 ≤ x1 ∧ x1 ≤ h 57 0 - 1)) → ((am_ok (h 56 3 + 1)) ∧ P (-100001) (am_up h 56 3 (h 56 3 + 1)))))) : ∃ a h1, am_cd 4 199 [.inr (.inr 56), .inl x1, .inl x2] h (some (.inl a)) h1 ∧ P a h1 := by
  refine am_outi (d := 3) (ls := [some (.inr (.inr 56)), some (.inl x1), some (.inl x2), none, none, none, none, none, none]) rfl ab199 ml199 (Nat.le_of_ble_eq_true rfl) np199 rfl ?_
  refine x_aload_n (q199c0 0 rfl) rfl ?_
  refine x_iload_n (q199c0 1 rfl) rfl ?_
  refine x_cvi (q199c0 2 rfl) rfl oc56 rfl (Nat.le_of_ble_eq_true rfl) (am_lifti (Nat.le_of_ble_eq_true rfl) (e_Mo_isVillage (r1 := h 57 0) (rfl) ?_))
  obtain ⟨s1, H⟩ := H
  refine ⟨s1, ?_⟩
  refine ⟨fun c2 => ?_, fun c2 => ?_⟩
  · replace H := H.1 c2
    refine x_if_eq_f (q199c0 3 rfl) (by decide) ?_
    refine x_iload_n (q199c0 4 rfl) rfl ?_
    refine x_csi (q199c0 5 rfl) rfl rfl rfl (Nat.le_of_ble_eq_true rfl) (am_lifti (Nat.le_of_ble_eq_true rfl) (e_Mo_isThing   ?_))
    refine ⟨fun c3 => ?_, fun c3 => ?_⟩
    · replace H := H.1 c3
      refine x_if_ne_t (q199c0 6 rfl) (by decide) ?_
      refine x_aload_n (q199c0 11 rfl) rfl ?_
      refine x_aload_n (q199c0 12 rfl) rfl ?_
      refine x_getr (q199c0 13 rfl) fd56_0 ?_
      refine x_iconst (q199c0 14 rfl) ?_
      refine x_iaload (q199c0 15 rfl) (al57 _) rfl (ag_l rfl rfl (rfl)) (by decide) ?_
      obtain ⟨h4, w5, H⟩ := H
      refine x_cvv (q199c0 16 rfl) rfl oc56 rfl (Nat.le_of_ble_eq_true rfl) ⟨h4, w5, ?_⟩
      refine x_aload_n (q199c0 17 rfl) rfl ?_
      refine x_iload_n (q199c0 18 rfl) rfl ?_
      obtain ⟨h6, w7, H⟩ := H
      refine x_cvv (q199c0 19 rfl) rfl oc56 rfl (Nat.le_of_ble_eq_true rfl) ⟨h6, w7, ?_⟩
      refine x_iconst (q199c0 20 rfl) ?_
      refine x_istore_n (q199c0 21 rfl) ⟨Nat.le_of_ble_eq_true rfl, trivial⟩ ?_
      refine x_iconst (q199c0 22 rfl) ?_
      refine x_istore (q199c0 23 rfl) ⟨Nat.le_of_ble_eq_true rfl, trivial⟩ ?_
      refine x_iconst (q199c0 24 rfl) ?_
      refine x_istore (q199c0 25 rfl) ⟨Nat.le_of_ble_eq_true rfl, trivial⟩ ?_
      exact H
    · replace H := H.2 c3
      refine x_if_ne_f (q199c0 6 rfl) (by decide) ?_
      refine x_aload_n (q199c0 7 rfl) rfl ?_
      refine x_ldc (q199c0 8 rfl) ?_
      refine x_cvi (q199c0 9 rfl) rfl oc56 rfl (Nat.le_of_ble_eq_true rfl) (am_lifti (Nat.le_of_ble_eq_true rfl) (e_Mo_finds (r1 := h 56 3) (rfl) ?_))
      obtain ⟨s8, H⟩ := H
      refine ⟨s8, ?_⟩
      exact x_ireti (q199c0 10 rfl) zb199 H
  · replace H := H.2 c2
    refine x_if_eq_t (q199c0 3 rfl) (by decide) ?_
    refine x_aload_n (q199c0 7 rfl) rfl ?_
    refine x_ldc (q199c0 8 rfl) ?_
    refine x_cvi (q199c0 9 rfl) rfl oc56 rfl (Nat.le_of_ble_eq_true rfl) (am_lifti (Nat.le_of_ble_eq_true rfl) (e_Mo_finds (r1 := h 56 3) (rfl) ?_))
    obtain ⟨s9, H⟩ := H
    refine ⟨s9, ?_⟩
    exact x_ireti (q199c0 10 rfl) zb199 H
theorem g_Mo_foretold_45 {h : am_H} {x1 : Int} {x2 : Int} {x3 : Int} {x4 : Int} {x5 : Int} {P : Int → am_H → Prop} (H : (h 57 2 ≤ x5 → ((0 ≤ x3 → P x3 h) ∧ (x3 < 0 → ((am_ok (h 56 3 + 1)) ∧ P (-100006) (am_up h 56 3 (h 56 3 + 1)))))) ∧ (x5 < h 57 2 → am_x (am_cd 3) 199 (am_qi P) 0 65 [some (.inr (.inr 56)), some (.inl x1), some (.inl x2), some (.inl x3), some (.inl x4), some (.inl x5), some (.inl 0), some (.inl 0), some (.inl 0)] [] h)) : am_x (am_cd 3) 199 (am_qi P) 0 45 [some (.inr (.inr 56)), some (.inl x1), some (.inl x2), some (.inl x3), some (.inl x4), some (.inl x5), none, none, none] [] h := by
  refine x_iload (q199c0 26 rfl) rfl ?_
  refine x_aload_n (q199c0 27 rfl) rfl ?_
  refine x_getr (q199c0 28 rfl) fd56_0 ?_
  refine x_iconst (q199c0 29 rfl) ?_
  refine x_iaload (q199c0 30 rfl) (al57 _) rfl (ag_l rfl rfl (rfl)) (by decide) ?_
  refine x_icmp_ge (q199c0 31 rfl) (fun c1 => ?_) (fun c1 => ?_)
  · replace H := H.1 c1
    refine x_iload_n (q199c1 32 rfl) rfl ?_
    refine x_if_ge (q199c1 33 rfl) (fun c2 => ?_) (fun c2 => ?_)
    · replace H := H.1 c2
      refine x_iload_n (q199c1 38 rfl) rfl ?_
      exact x_ireti (q199c1 39 rfl) zb199 H
    · replace H := H.2 c2
      refine x_aload_n (q199c1 34 rfl) rfl ?_
      refine x_ldc (q199c1 35 rfl) ?_
      refine x_cvi (q199c1 36 rfl) rfl oc56 rfl (Nat.le_of_ble_eq_true rfl) (am_lifti (Nat.le_of_ble_eq_true rfl) (e_Mo_finds (r1 := h 56 3) (rfl) ?_))
      obtain ⟨s3, H⟩ := H
      refine ⟨s3, ?_⟩
      refine x_goto (q199c1 37 rfl) ?_
      exact x_ireti (q199c1 39 rfl) zb199 H
  · replace H := H.2 c1
    refine x_iconst (q199c0 32 rfl) ?_
    refine x_istore (q199c0 33 rfl) ⟨Nat.le_of_ble_eq_true rfl, trivial⟩ ?_
    refine x_iconst (q199c0 34 rfl) ?_
    refine x_istore (q199c0 35 rfl) ⟨Nat.le_of_ble_eq_true rfl, trivial⟩ ?_
    refine x_iconst (q199c0 36 rfl) ?_
    refine x_istore (q199c0 37 rfl) ⟨Nat.le_of_ble_eq_true rfl, trivial⟩ ?_
    exact H
theorem g_Mo_foretold_65 {h : am_H} {x1 : Int} {x2 : Int} {x3 : Int} {x4 : Int} {x5 : Int} {x6 : Int} {x7 : Int} {x8 : Int} {P : Int → am_H → Prop} (H : (h 57 0 ≤ x8 → ((x7 = 0 → ((am_ok (x5 + 1)) ∧ am_x (am_cd 3) 199 (am_qi P) 0 45 [some (.inr (.inr 56)), some (.inl x1), some (.inl x2), some (.inl x3), some (.inl x4), some (.inl (x5 + 1)), none, none, none] [] h)) ∧ (x7 ≠ 0 → ((x4 < x6 → ((am_ok (x5 + 1)) ∧ am_x (am_cd 3) 199 (am_qi P) 0 45 [some (.inr (.inr 56)), some (.inl x1), some (.inl x2), some (.inl x5), some (.inl x6), some (.inl (x5 + 1)), none, none, none] [] h)) ∧ (x6 ≤ x4 → ((am_ok (x5 + 1)) ∧ am_x (am_cd 3) 199 (am_qi P) 0 45 [some (.inr (.inr 56)), some (.inl x1), some (.inl x2), some (.inl x3), some (.inl x4), some (.inl (x5 + 1)), none, none, none] [] h)))))) ∧ (x8 < h 57 0 → ((x8 = x1 → ((am_ok (x8 + 1)) ∧ am_x (am_cd 3) 199 (am_qi P) 0 65 [some (.inr (.inr 56)), some (.inl x1), some (.inl x2), some (.inl x3), some (.inl x4), some (.inl x5), some (.inl x6), some (.inl x7), some (.inl (x8 + 1))] [] h)) ∧ (x8 ≠ x1 → ((0 ≤ x8 ∧ x8 < 12) ∧ ((h 59 x8 < 0 → ((am_ok (x8 + 1)) ∧ am_x (am_cd 3) 199 (am_qi P) 0 65 [some (.inr (.inr 56)), some (.inl x1), some (.inl x2), some (.inl x3), some (.inl x4), some (.inl x5), some (.inl x6), some (.inl x7), some (.inl (x8 + 1))] [] h)) ∧ (0 ≤ h 59 x8 → ((am_ok (6 * x8) ∧ am_ok (6 * x8 + x2) ∧ (0 ≤ 6 * x8 + x2 ∧ 6 * x8 + x2 < 72)) ∧ ((h 62 (6 * x8 + x2) = x5 → ((am_ok (3 * x8) ∧ am_ok (10 + 3 * x8) ∧ am_ok (10 + 3 * x8 + 2) ∧ (0 ≤ 10 + 3 * x8 + 2 ∧ 10 + 3 * x8 + 2 < 820)) ∧ ((am_ok (1 + h 59 x8) ∧ (0 < 1 + h 59 x8 ∧ 0 ≤ h 57 (12 + 3 * x8)) ∧ am_ok (x6 + h 57 (12 + 3 * x8) / (1 + h 59 x8)) ∧ am_ok (x8 + 1)) ∧ am_x (am_cd 3) 199 (am_qi P) 0 65 [some (.inr (.inr 56)), some (.inl x1), some (.inl x2), some (.inl x3), some (.inl x4), some (.inl x5), some (.inl (x6 + h 57 (12 + 3 * x8) / (1 + h 59 x8))), some (.inl 1), some (.inl (x8 + 1))] [] h))) ∧ (h 62 (6 * x8 + x2) ≠ x5 → ((am_ok (x8 + 1)) ∧ am_x (am_cd 3) 199 (am_qi P) 0 65 [some (.inr (.inr 56)), some (.inl x1), some (.inl x2), some (.inl x3), some (.inl x4), some (.inl x5), some (.inl x6), some (.inl x7), some (.inl (x8 + 1))] [] h))))))))))) : am_x (am_cd 3) 199 (am_qi P) 0 65 [some (.inr (.inr 56)), some (.inl x1), some (.inl x2), some (.inl x3), some (.inl x4), some (.inl x5), some (.inl x6), some (.inl x7), some (.inl x8)] [] h := by
  refine x_iload (q199c0 38 rfl) rfl ?_
  refine x_aload_n (q199c0 39 rfl) rfl ?_
  refine x_getr (q199c0 40 rfl) fd56_0 ?_
  refine x_iconst (q199c0 41 rfl) ?_
  refine x_iaload (q199c0 42 rfl) (al57 _) rfl (ag_l rfl rfl (rfl)) (by decide) ?_
  refine x_icmp_ge (q199c0 43 rfl) (fun c1 => ?_) (fun c1 => ?_)
  · replace H := H.1 c1
    refine x_iload (q199c1 20 rfl) rfl ?_
    refine x_if_eq (q199c1 21 rfl) (fun c2 => ?_) (fun c2 => ?_)
    · replace H := H.1 c2
      obtain ⟨s3, H⟩ := H
      refine x_iinc (q199c1 30 rfl) rfl ⟨Nat.le_of_ble_eq_true rfl, trivial⟩ s3 ?_
      refine x_goto (q199c1 31 rfl) ?_
      exact am_x_weak (ls' := [some (.inr (.inr 56)), some (.inl x1), some (.inl x2), some (.inl x3), some (.inl x4), some (.inl (x5 + 1)), some (.inl x6), some (.inl x7), some (.inl x8)]) (lle_c (lle_c (lle_c (lle_c (lle_c (lle_c (lle_d trivial (lle_d trivial (lle_d trivial (lle_nil)))))))))) H
    · replace H := H.2 c2
      refine x_iload (q199c1 22 rfl) rfl ?_
      refine x_iload (q199c1 23 rfl) rfl ?_
      refine x_icmp_gt (q199c1 24 rfl) (fun c4 => ?_) (fun c4 => ?_)
      · replace H := H.1 c4
        obtain ⟨s5, H⟩ := H
        refine x_iload (q199c1 26 rfl) rfl ?_
        refine x_istore_n (q199c1 27 rfl) ⟨Nat.le_of_ble_eq_true rfl, trivial⟩ ?_
        refine x_iload (q199c1 28 rfl) rfl ?_
        refine x_istore (q199c1 29 rfl) ⟨Nat.le_of_ble_eq_true rfl, trivial⟩ ?_
        refine x_iinc (q199c1 30 rfl) rfl ⟨Nat.le_of_ble_eq_true rfl, trivial⟩ s5 ?_
        refine x_goto (q199c1 31 rfl) ?_
        exact am_x_weak (ls' := [some (.inr (.inr 56)), some (.inl x1), some (.inl x2), some (.inl x5), some (.inl x6), some (.inl (x5 + 1)), some (.inl x6), some (.inl x7), some (.inl x8)]) (lle_c (lle_c (lle_c (lle_c (lle_c (lle_c (lle_d trivial (lle_d trivial (lle_d trivial (lle_nil)))))))))) H
      · replace H := H.2 c4
        obtain ⟨s6, H⟩ := H
        refine x_goto (q199c1 25 rfl) ?_
        refine x_iinc (q199c1 30 rfl) rfl ⟨Nat.le_of_ble_eq_true rfl, trivial⟩ s6 ?_
        refine x_goto (q199c1 31 rfl) ?_
        exact am_x_weak (ls' := [some (.inr (.inr 56)), some (.inl x1), some (.inl x2), some (.inl x3), some (.inl x4), some (.inl (x5 + 1)), some (.inl x6), some (.inl x7), some (.inl x8)]) (lle_c (lle_c (lle_c (lle_c (lle_c (lle_c (lle_d trivial (lle_d trivial (lle_d trivial (lle_nil)))))))))) H
  · replace H := H.2 c1
    refine x_iload (q199c0 44 rfl) rfl ?_
    refine x_iload_n (q199c0 45 rfl) rfl ?_
    refine x_icmp_eq (q199c0 46 rfl) (fun c7 => ?_) (fun c7 => ?_)
    · replace H := H.1 c7
      obtain ⟨s8, H⟩ := H
      refine x_iinc (q199c1 18 rfl) rfl ⟨Nat.le_of_ble_eq_true rfl, trivial⟩ s8 ?_
      refine x_goto (q199c1 19 rfl) ?_
      exact H
    · replace H := H.2 c7
      obtain ⟨s9, H⟩ := H
      refine x_aload_n (q199c0 47 rfl) rfl ?_
      refine x_getr (q199c0 48 rfl) fd56_4 ?_
      refine x_iload (q199c0 49 rfl) rfl ?_
      refine x_iaload (q199c0 50 rfl) (al59 _) rfl (ag_l rfl rfl (rfl)) s9 ?_
      refine x_if_lt (q199c0 51 rfl) (fun c10 => ?_) (fun c10 => ?_)
      · replace H := H.1 c10
        obtain ⟨s11, H⟩ := H
        refine x_iinc (q199c1 18 rfl) rfl ⟨Nat.le_of_ble_eq_true rfl, trivial⟩ s11 ?_
        refine x_goto (q199c1 19 rfl) ?_
        exact H
      · replace H := H.2 c10
        obtain ⟨⟨s12, s13, s14⟩, H⟩ := H
        refine x_aload_n (q199c0 52 rfl) rfl ?_
        refine x_getr (q199c0 53 rfl) fd56_7 ?_
        refine x_bipush (q199c0 54 rfl) ?_
        refine x_iload (q199c0 55 rfl) rfl ?_
        refine x_imul (q199c0 56 rfl) s12 ?_
        refine x_iload_n (q199c0 57 rfl) rfl ?_
        refine x_iadd (q199c0 58 rfl) s13 ?_
        refine x_iaload (q199c0 59 rfl) (al62 _) rfl (ag_l rfl rfl (rfl)) s14 ?_
        refine x_iload (q199c1 0 rfl) rfl ?_
        refine x_icmp_eq (q199c1 1 rfl) (fun c15 => ?_) (fun c15 => ?_)
        · replace H := H.1 c15
          refine x_iconst (q199c1 3 rfl) ?_
          refine x_istore (q199c1 4 rfl) ⟨Nat.le_of_ble_eq_true rfl, trivial⟩ ?_
          refine x_iload (q199c1 5 rfl) rfl ?_
          refine x_aload_n (q199c1 6 rfl) rfl ?_
          refine x_iload (q199c1 7 rfl) rfl ?_
          refine x_cvi (q199c1 8 rfl) rfl oc56 rfl (Nat.le_of_ble_eq_true rfl) (am_lifti (Nat.le_of_ble_eq_true rfl) (e_Mo_folk (r1 := h 57 (12 + 3 * x8)) (rfl) ?_))
          obtain ⟨⟨s16, s17, s18, s19⟩, H⟩ := H
          refine ⟨⟨s16, s17, s18, s19⟩, ?_⟩
          obtain ⟨⟨s20, s21, s22, s23⟩, H⟩ := H
          refine x_iconst (q199c1 9 rfl) ?_
          refine x_aload_n (q199c1 10 rfl) rfl ?_
          refine x_getr (q199c1 11 rfl) fd56_4 ?_
          refine x_iload (q199c1 12 rfl) rfl ?_
          refine x_iaload (q199c1 13 rfl) (al59 _) rfl (ag_l rfl rfl (rfl)) s9 ?_
          refine x_iadd (q199c1 14 rfl) s20 ?_
          refine x_idiv (q199c1 15 rfl) s21 ?_
          refine x_iadd (q199c1 16 rfl) s22 ?_
          refine x_istore (q199c1 17 rfl) ⟨Nat.le_of_ble_eq_true rfl, trivial⟩ ?_
          refine x_iinc (q199c1 18 rfl) rfl ⟨Nat.le_of_ble_eq_true rfl, trivial⟩ s23 ?_
          refine x_goto (q199c1 19 rfl) ?_
          exact H
        · replace H := H.2 c15
          obtain ⟨s24, H⟩ := H
          refine x_goto (q199c1 2 rfl) ?_
          refine x_iinc (q199c1 18 rfl) rfl ⟨Nat.le_of_ble_eq_true rfl, trivial⟩ s24 ?_
          refine x_goto (q199c1 19 rfl) ?_
          exact H
theorem e_Mo_spread {h : am_H} {x1 : Int} {x2 : Int} {P : Int → am_H → Prop} (H : (x1 < 0 → ((am_ok (h 56 3 + 1)) ∧ P (-100001) (am_up h 56 3 (h 56 3 + 1)))) ∧ (0 ≤ x1 → ((am_shr x1 (h 57 0) ≠ 0 → ((am_ok (h 56 3 + 1)) ∧ P (-100001) (am_up h 56 3 (h 56 3 + 1)))) ∧ (am_shr x1 (h 57 0) = 0 → (((0 ≤ x2 ∧ x2 ≤ 30) → (∃ a7 h6, am_cd 3 171 [.inr (.inr 56), .inl x1, .inl x2] h (some (.inl a7)) h6 ∧ P a7 h6)) ∧ ((¬(0 ≤ x2 ∧ x2 ≤ 30)) → ((am_ok (h 56 3 + 1)) ∧ P (-100001) (am_up h 56 3 (h 56 3 + 1))))))))) : ∃ a h1, am_cd 4 200 [.inr (.inr 56), .inl x1, .inl x2] h (some (.inl a)) h1 ∧ P a h1 := by
  refine am_outi (d := 3) (ls := [some (.inr (.inr 56)), some (.inl x1), some (.inl x2)]) rfl ab200 ml200 (Nat.le_of_ble_eq_true rfl) np200 rfl ?_
  refine x_iload_n (q200c0 0 rfl) rfl ?_
  refine x_if_lt (q200c0 1 rfl) (fun c1 => ?_) (fun c1 => ?_)
  · replace H := H.1 c1
    refine x_aload_n (q200c0 14 rfl) rfl ?_
    refine x_ldc (q200c0 15 rfl) ?_
    refine x_cvi (q200c0 16 rfl) rfl oc56 rfl (Nat.le_of_ble_eq_true rfl) (am_lifti (Nat.le_of_ble_eq_true rfl) (e_Mo_finds (r1 := h 56 3) (rfl) ?_))
    obtain ⟨s2, H⟩ := H
    refine ⟨s2, ?_⟩
    refine x_goto (q200c0 17 rfl) ?_
    exact x_ireti (q200c0 22 rfl) zb200 H
  · replace H := H.2 c1
    refine x_iload_n (q200c0 2 rfl) rfl ?_
    refine x_aload_n (q200c0 3 rfl) rfl ?_
    refine x_getr (q200c0 4 rfl) fd56_0 ?_
    refine x_iconst (q200c0 5 rfl) ?_
    refine x_iaload (q200c0 6 rfl) (al57 _) rfl (ag_l rfl rfl (rfl)) (by decide) ?_
    refine x_ishr (q200c0 7 rfl) ?_
    refine x_if_ne (q200c0 8 rfl) (fun c3 => ?_) (fun c3 => ?_)
    · replace H := H.1 c3
      refine x_aload_n (q200c0 14 rfl) rfl ?_
      refine x_ldc (q200c0 15 rfl) ?_
      refine x_cvi (q200c0 16 rfl) rfl oc56 rfl (Nat.le_of_ble_eq_true rfl) (am_lifti (Nat.le_of_ble_eq_true rfl) (e_Mo_finds (r1 := h 56 3) (rfl) ?_))
      obtain ⟨s4, H⟩ := H
      refine ⟨s4, ?_⟩
      refine x_goto (q200c0 17 rfl) ?_
      exact x_ireti (q200c0 22 rfl) zb200 H
    · replace H := H.2 c3
      refine x_iload_n (q200c0 9 rfl) rfl ?_
      refine x_iconst (q200c0 10 rfl) ?_
      refine x_bipush (q200c0 11 rfl) ?_
      refine x_csi (q200c0 12 rfl) rfl rfl rfl (Nat.le_of_ble_eq_true rfl) (am_lifti (Nat.le_of_ble_eq_true rfl) (e_Mo_in   ?_))
      refine ⟨fun c5 => ?_, fun c5 => ?_⟩
      · replace H := H.1 c5
        refine x_if_ne_t (q200c0 13 rfl) (by decide) ?_
        refine x_aload_n (q200c0 18 rfl) rfl ?_
        refine x_iload_n (q200c0 19 rfl) rfl ?_
        refine x_iload_n (q200c0 20 rfl) rfl ?_
        obtain ⟨a7, h6, w8, H⟩ := H
        refine x_cvi (q200c0 21 rfl) rfl oc56 rfl (Nat.le_of_ble_eq_true rfl) ⟨a7, h6, w8, ?_⟩
        exact x_ireti (q200c0 22 rfl) zb200 H
      · replace H := H.2 c5
        refine x_if_ne_f (q200c0 13 rfl) (by decide) ?_
        refine x_aload_n (q200c0 14 rfl) rfl ?_
        refine x_ldc (q200c0 15 rfl) ?_
        refine x_cvi (q200c0 16 rfl) rfl oc56 rfl (Nat.le_of_ble_eq_true rfl) (am_lifti (Nat.le_of_ble_eq_true rfl) (e_Mo_finds (r1 := h 56 3) (rfl) ?_))
        obtain ⟨s9, H⟩ := H
        refine ⟨s9, ?_⟩
        refine x_goto (q200c0 17 rfl) ?_
        exact x_ireti (q200c0 22 rfl) zb200 H
theorem e_Mo_seeds {h : am_H} {x1 : Int} {P : Int → am_H → Prop} (H : ((0 ≤ x1 ∧ x1 ≤ 30) → ((am_ok (am_shl 1 (h 57 0) - 1)) ∧ am_x (am_cd 3) 201 (am_qi P) 0 30 [some (.inr (.inr 56)), some (.inl x1), some (.inl (am_shl 1 (h 57 0) - 1)), some (.inl 0), none] [] h)) ∧ ((¬(0 ≤ x1 ∧ x1 ≤ 30)) → ((am_ok (h 56 3 + 1)) ∧ P (-100001) (am_up h 56 3 (h 56 3 + 1))))) : ∃ a h1, am_cd 4 201 [.inr (.inr 56), .inl x1] h (some (.inl a)) h1 ∧ P a h1 := by
  refine am_outi (d := 3) (ls := [some (.inr (.inr 56)), some (.inl x1), none, none, none]) rfl ab201 ml201 (Nat.le_of_ble_eq_true rfl) np201 rfl ?_
  refine x_iload_n (q201c0 0 rfl) rfl ?_
  refine x_iconst (q201c0 1 rfl) ?_
  refine x_bipush (q201c0 2 rfl) ?_
  refine x_csi (q201c0 3 rfl) rfl rfl rfl (Nat.le_of_ble_eq_true rfl) (am_lifti (Nat.le_of_ble_eq_true rfl) (e_Mo_in   ?_))
  refine ⟨fun c1 => ?_, fun c1 => ?_⟩
  · replace H := H.1 c1
    obtain ⟨s2, H⟩ := H
    refine x_if_ne_t (q201c0 4 rfl) (by decide) ?_
    refine x_iconst (q201c0 9 rfl) ?_
    refine x_aload_n (q201c0 10 rfl) rfl ?_
    refine x_getr (q201c0 11 rfl) fd56_0 ?_
    refine x_iconst (q201c0 12 rfl) ?_
    refine x_iaload (q201c0 13 rfl) (al57 _) rfl (ag_l rfl rfl (rfl)) (by decide) ?_
    refine x_ishl (q201c0 14 rfl) ?_
    refine x_iconst (q201c0 15 rfl) ?_
    refine x_isub (q201c0 16 rfl) s2 ?_
    refine x_istore_n (q201c0 17 rfl) ⟨Nat.le_of_ble_eq_true rfl, trivial⟩ ?_
    refine x_iconst (q201c0 18 rfl) ?_
    refine x_istore_n (q201c0 19 rfl) ⟨Nat.le_of_ble_eq_true rfl, trivial⟩ ?_
    exact H
  · replace H := H.2 c1
    refine x_if_ne_f (q201c0 4 rfl) (by decide) ?_
    refine x_aload_n (q201c0 5 rfl) rfl ?_
    refine x_ldc (q201c0 6 rfl) ?_
    refine x_cvi (q201c0 7 rfl) rfl oc56 rfl (Nat.le_of_ble_eq_true rfl) (am_lifti (Nat.le_of_ble_eq_true rfl) (e_Mo_finds (r1 := h 56 3) (rfl) ?_))
    obtain ⟨s3, H⟩ := H
    refine ⟨s3, ?_⟩
    exact x_ireti (q201c0 8 rfl) zb201 H
theorem g_Mo_seeds_30 {h : am_H} {x1 : Int} {x2 : Int} {x3 : Int} {P : Int → am_H → Prop} (H : (4 ≤ x3 → ((am_ok (h 56 3 + 1)) ∧ P (-100006) (am_up h 56 3 (h 56 3 + 1)))) ∧ (x3 < 4 → am_x (am_cd 3) 201 (am_qi P) 0 38 [some (.inr (.inr 56)), some (.inl x1), some (.inl x2), some (.inl x3), some (.inl 0)] [] h)) : am_x (am_cd 3) 201 (am_qi P) 0 30 [some (.inr (.inr 56)), some (.inl x1), some (.inl x2), some (.inl x3), none] [] h := by
  refine x_iload_n (q201c0 20 rfl) rfl ?_
  refine x_iconst (q201c0 21 rfl) ?_
  refine x_icmp_ge (q201c0 22 rfl) (fun c1 => ?_) (fun c1 => ?_)
  · replace H := H.1 c1
    refine x_aload_n (q201c0 44 rfl) rfl ?_
    refine x_ldc (q201c0 45 rfl) ?_
    refine x_cvi (q201c0 46 rfl) rfl oc56 rfl (Nat.le_of_ble_eq_true rfl) (am_lifti (Nat.le_of_ble_eq_true rfl) (e_Mo_finds (r1 := h 56 3) (rfl) ?_))
    obtain ⟨s2, H⟩ := H
    refine ⟨s2, ?_⟩
    exact x_ireti (q201c0 47 rfl) zb201 H
  · replace H := H.2 c1
    refine x_iconst (q201c0 23 rfl) ?_
    refine x_istore (q201c0 24 rfl) ⟨Nat.le_of_ble_eq_true rfl, trivial⟩ ?_
    exact H
theorem g_Mo_seeds_38 {h : am_H} {x1 : Int} {x2 : Int} {x3 : Int} {x4 : Int} {P : Int → am_H → Prop} (H : (x2 < x4 → ((am_ok (x3 + 1)) ∧ am_x (am_cd 3) 201 (am_qi P) 0 30 [some (.inr (.inr 56)), some (.inl x1), some (.inl x2), some (.inl (x3 + 1)), none] [] h)) ∧ (x4 ≤ x2 → (∃ a4 h3, am_cd 3 85 [.inl x4] h (some (.inl a4)) h3 ∧ ((a4 ≠ x3 → ((am_ok (x4 + 1)) ∧ am_x (am_cd 3) 201 (am_qi P) 0 38 [some (.inr (.inr 56)), some (.inl x1), some (.inl x2), some (.inl x3), some (.inl (x4 + 1))] [] h3)) ∧ (a4 = x3 → (∃ a9 h8, am_cd 3 171 [.inr (.inr 56), .inl x4, .inl x1] h3 (some (.inl a9)) h8 ∧ ((a9 ≠ x2 → ((am_ok (x4 + 1)) ∧ am_x (am_cd 3) 201 (am_qi P) 0 38 [some (.inr (.inr 56)), some (.inl x1), some (.inl x2), some (.inl x3), some (.inl (x4 + 1))] [] h8)) ∧ (a9 = x2 → P x4 h8)))))))) : am_x (am_cd 3) 201 (am_qi P) 0 38 [some (.inr (.inr 56)), some (.inl x1), some (.inl x2), some (.inl x3), some (.inl x4)] [] h := by
  refine x_iload (q201c0 25 rfl) rfl ?_
  refine x_iload_n (q201c0 26 rfl) rfl ?_
  refine x_icmp_gt (q201c0 27 rfl) (fun c1 => ?_) (fun c1 => ?_)
  · replace H := H.1 c1
    obtain ⟨s2, H⟩ := H
    refine x_iinc (q201c0 42 rfl) rfl ⟨Nat.le_of_ble_eq_true rfl, trivial⟩ s2 ?_
    refine x_goto (q201c0 43 rfl) ?_
    exact am_x_weak (ls' := [some (.inr (.inr 56)), some (.inl x1), some (.inl x2), some (.inl (x3 + 1)), some (.inl x4)]) (lle_c (lle_c (lle_c (lle_c (lle_d trivial (lle_nil)))))) H
  · replace H := H.2 c1
    refine x_iload (q201c0 28 rfl) rfl ?_
    obtain ⟨a4, h3, w5, H⟩ := H
    refine x_csi (q201c0 29 rfl) rfl rfl rfl (Nat.le_of_ble_eq_true rfl) ⟨a4, h3, w5, ?_⟩
    refine x_iload_n (q201c0 30 rfl) rfl ?_
    refine x_icmp_ne (q201c0 31 rfl) (fun c6 => ?_) (fun c6 => ?_)
    · replace H := H.1 c6
      obtain ⟨s7, H⟩ := H
      refine x_iinc (q201c0 40 rfl) rfl ⟨Nat.le_of_ble_eq_true rfl, trivial⟩ s7 ?_
      refine x_goto (q201c0 41 rfl) ?_
      exact H
    · replace H := H.2 c6
      refine x_aload_n (q201c0 32 rfl) rfl ?_
      refine x_iload (q201c0 33 rfl) rfl ?_
      refine x_iload_n (q201c0 34 rfl) rfl ?_
      obtain ⟨a9, h8, w10, H⟩ := H
      refine x_cvi (q201c0 35 rfl) rfl oc56 rfl (Nat.le_of_ble_eq_true rfl) ⟨a9, h8, w10, ?_⟩
      refine x_iload_n (q201c0 36 rfl) rfl ?_
      refine x_icmp_ne (q201c0 37 rfl) (fun c11 => ?_) (fun c11 => ?_)
      · replace H := H.1 c11
        obtain ⟨s12, H⟩ := H
        refine x_iinc (q201c0 40 rfl) rfl ⟨Nat.le_of_ble_eq_true rfl, trivial⟩ s12 ?_
        refine x_goto (q201c0 41 rfl) ?_
        exact H
      · replace H := H.2 c11
        refine x_iload (q201c0 38 rfl) rfl ?_
        exact x_ireti (q201c0 39 rfl) zb201 H
theorem e_Border_draw {h : am_H} {x1 : Int} {x2 : Int} {x3 : Int} {x4 : Int} {P : am_H → Prop} (H : ∃ h1, am_cd 4 175 [.inr (.inr 32), .inl x1, .inl x2, .inl x3, .inl x4] h none h1 ∧ am_x (am_cd 4) 202 (am_qv P) 0 18 [some (.inr (.inr 32)), none, none, none, none, some (.inl 0), none] [] (am_up h1 32 4 1000000)) : ∃ h1, am_cd 5 202 [.inr (.inr 32), .inl x1, .inl x2, .inl x3, .inl x4] h none h1 ∧ P h1 := by
  refine am_outv (d := 4) (ls := [some (.inr (.inr 32)), some (.inl x1), some (.inl x2), some (.inl x3), some (.inl x4), none, none]) rfl ab202 ml202 (Nat.le_of_ble_eq_true rfl) np202 rfl ?_
  refine x_aload_n (q202c0 0 rfl) rfl ?_
  refine x_iload_n (q202c0 1 rfl) rfl ?_
  refine x_iload_n (q202c0 2 rfl) rfl ?_
  refine x_iload_n (q202c0 3 rfl) rfl ?_
  refine x_iload (q202c0 4 rfl) rfl ?_
  obtain ⟨h1, w2, H⟩ := H
  refine x_cvv (q202c0 5 rfl) rfl oc32 rfl (Nat.le_of_ble_eq_true rfl) ⟨h1, w2, ?_⟩
  refine x_aload_n (q202c0 6 rfl) rfl ?_
  refine x_ldc (q202c0 7 rfl) ?_
  refine x_putf (q202c0 8 rfl) fd32_4 ?_
  refine x_iconst (q202c0 9 rfl) ?_
  refine x_istore (q202c0 10 rfl) ⟨Nat.le_of_ble_eq_true rfl, trivial⟩ ?_
  exact am_x_weak (ls' := [some (.inr (.inr 32)), some (.inl x1), some (.inl x2), some (.inl x3), some (.inl x4), some (.inl 0), none]) (lle_c (lle_d trivial (lle_d trivial (lle_d trivial (lle_d trivial (lle_c (lle_c (lle_nil)))))))) H
theorem g_Border_draw_18 {h : am_H} {x5 : Int} {P : am_H → Prop} (H : (8 ≤ x5 → P h) ∧ (x5 < 8 → (∃ h2, am_cd 4 140 [.inr (.inr 32), .inl x5, .inl (-200)] h none h2 ∧ am_x (am_cd 4) 202 (am_qv P) 0 39 [some (.inr (.inr 32)), none, none, none, none, some (.inl x5), some (.inl 0)] [] h2))) : am_x (am_cd 4) 202 (am_qv P) 0 18 [some (.inr (.inr 32)), none, none, none, none, some (.inl x5), none] [] h := by
  refine x_iload (q202c0 11 rfl) rfl ?_
  refine x_gets (q202c0 12 rfl) ?_
  refine x_alen (q202c0 13 rfl) (al2002 _) rfl (z := 8) ?_
  refine x_icmp_ge (q202c0 14 rfl) (fun c1 => ?_) (fun c1 => ?_)
  · replace H := H.1 c1
    exact x_ret (q202c0 39 rfl) H
  · replace H := H.2 c1
    refine x_aload_n (q202c0 15 rfl) rfl ?_
    refine x_iload (q202c0 16 rfl) rfl ?_
    refine x_sipush (q202c0 17 rfl) ?_
    obtain ⟨h2, w3, H⟩ := H
    refine x_cvv (q202c0 18 rfl) rfl oc32 rfl (Nat.le_of_ble_eq_true rfl) ⟨h2, w3, ?_⟩
    refine x_iconst (q202c0 19 rfl) ?_
    refine x_istore (q202c0 20 rfl) ⟨Nat.le_of_ble_eq_true rfl, trivial⟩ ?_
    exact H
theorem g_Border_draw_39 {h : am_H} {x5 : Int} {x6 : Int} {P : am_H → Prop} (H : (h 1 0 ≤ x6 → ((am_ok (x5 + 1)) ∧ am_x (am_cd 4) 202 (am_qv P) 0 18 [some (.inr (.inr 32)), none, none, none, none, some (.inl (x5 + 1)), none] [] h)) ∧ (x6 < h 1 0 → ((0 ≤ x5 ∧ x5 < 8) ∧ ((0 ≤ x6 ∧ x6 < 12) ∧ ((am_ok (am_ct 2002 x5 * h 2 x6)) ∧ ((am_ok (am_ct 2003 x5 * h 3 x6) ∧ am_ok (am_ct 2002 x5 * h 2 x6 + am_ct 2003 x5 * h 3 x6)) ∧ ((am_ok (am_ct 2002 x5 * h 2 x6 + am_ct 2003 x5 * h 3 x6 + 1)) ∧ (∃ h9, am_cd 4 140 [.inr (.inr 32), .inl x5, .inl (am_ct 2002 x5 * h 2 x6 + am_ct 2003 x5 * h 3 x6 + 1)] h none h9 ∧ ((am_ok (x6 + 1)) ∧ am_x (am_cd 4) 202 (am_qv P) 0 39 [some (.inr (.inr 32)), none, none, none, none, some (.inl x5), some (.inl (x6 + 1))] [] h9))))))))) : am_x (am_cd 4) 202 (am_qv P) 0 39 [some (.inr (.inr 32)), none, none, none, none, some (.inl x5), some (.inl x6)] [] h := by
  refine x_iload (q202c0 21 rfl) rfl ?_
  refine x_aload_n (q202c0 22 rfl) rfl ?_
  refine x_getr (q202c0 23 rfl) fd32_0 ?_
  refine x_cvi (q202c0 24 rfl) rfl oc1 rfl (Nat.le_of_ble_eq_true rfl) (am_lifti (Nat.le_of_ble_eq_true rfl) (e_Land_size (r1 := h 1 0) (rfl) ?_))
  refine x_icmp_ge (q202c0 25 rfl) (fun c1 => ?_) (fun c1 => ?_)
  · replace H := H.1 c1
    obtain ⟨s2, H⟩ := H
    refine x_iinc (q202c0 37 rfl) rfl ⟨Nat.le_of_ble_eq_true rfl, trivial⟩ s2 ?_
    refine x_goto (q202c0 38 rfl) ?_
    exact am_x_weak (ls' := [some (.inr (.inr 32)), none, none, none, none, some (.inl (x5 + 1)), some (.inl x6)]) (lle_c (lle_c (lle_c (lle_c (lle_c (lle_c (lle_d trivial (lle_nil)))))))) H
  · replace H := H.2 c1
    refine x_aload_n (q202c0 26 rfl) rfl ?_
    refine x_iload (q202c0 27 rfl) rfl ?_
    refine x_aload_n (q202c0 28 rfl) rfl ?_
    refine x_iload (q202c0 29 rfl) rfl ?_
    refine x_iload (q202c0 30 rfl) rfl ?_
    refine x_cvi (q202c0 31 rfl) rfl oc32 rfl (Nat.le_of_ble_eq_true rfl) (am_lifti (Nat.le_of_ble_eq_true rfl) (e_Border_heightOf (r1 := h 2 x6) (r2 := h 3 x6) (rfl) (rfl) ?_))
    obtain ⟨s3, H⟩ := H
    refine ⟨s3, ?_⟩
    obtain ⟨s4, H⟩ := H
    refine ⟨s4, ?_⟩
    obtain ⟨s5, H⟩ := H
    refine ⟨s5, ?_⟩
    obtain ⟨⟨s6, s7⟩, H⟩ := H
    refine ⟨⟨s6, s7⟩, ?_⟩
    obtain ⟨s8, H⟩ := H
    refine x_iconst (q202c0 32 rfl) ?_
    refine x_iadd (q202c0 33 rfl) s8 ?_
    obtain ⟨h9, w10, H⟩ := H
    refine x_cvv (q202c0 34 rfl) rfl oc32 rfl (Nat.le_of_ble_eq_true rfl) ⟨h9, w10, ?_⟩
    obtain ⟨s11, H⟩ := H
    refine x_iinc (q202c0 35 rfl) rfl ⟨Nat.le_of_ble_eq_true rfl, trivial⟩ s11 ?_
    refine x_goto (q202c0 36 rfl) ?_
    exact H
theorem e_Dialects_between {h : am_H} {x1 : Int} {x2 : Int} {x3 : Int} {P : Int → am_H → Prop} (H : ∃ h1, am_cd 4 176 [.inr (.inr 33), .inl x1, .inl x3] h none h1 ∧ (∃ h3, am_cd 4 176 [.inr (.inr 33), .inl x2, .inl x3] h1 none h3 ∧ (∃ a6 h5, am_cd 4 177 [.inr (.inr 33), .inl x1, .inl x2] h3 (some (.inl a6)) h5 ∧ P a6 h5))) : ∃ a h1, am_cd 5 203 [.inr (.inr 33), .inl x1, .inl x2, .inl x3] h (some (.inl a)) h1 ∧ P a h1 := by
  refine am_outi (d := 4) (ls := [some (.inr (.inr 33)), some (.inl x1), some (.inl x2), some (.inl x3)]) rfl ab203 ml203 (Nat.le_of_ble_eq_true rfl) np203 rfl ?_
  refine x_aload_n (q203c0 0 rfl) rfl ?_
  refine x_iload_n (q203c0 1 rfl) rfl ?_
  refine x_iload_n (q203c0 2 rfl) rfl ?_
  obtain ⟨h1, w2, H⟩ := H
  refine x_cvv (q203c0 3 rfl) rfl oc33 rfl (Nat.le_of_ble_eq_true rfl) ⟨h1, w2, ?_⟩
  refine x_aload_n (q203c0 4 rfl) rfl ?_
  refine x_iload_n (q203c0 5 rfl) rfl ?_
  refine x_iload_n (q203c0 6 rfl) rfl ?_
  obtain ⟨h3, w4, H⟩ := H
  refine x_cvv (q203c0 7 rfl) rfl oc33 rfl (Nat.le_of_ble_eq_true rfl) ⟨h3, w4, ?_⟩
  refine x_aload_n (q203c0 8 rfl) rfl ?_
  refine x_iload_n (q203c0 9 rfl) rfl ?_
  refine x_iload_n (q203c0 10 rfl) rfl ?_
  obtain ⟨a6, h5, w7, H⟩ := H
  refine x_cvi (q203c0 11 rfl) rfl oc33 rfl (Nat.le_of_ble_eq_true rfl) ⟨a6, h5, w7, ?_⟩
  exact x_ireti (q203c0 12 rfl) zb203 H
theorem e_Dialects_begin {h : am_H} {x1 : Int} {P : am_H → Prop} (H : ∃ h1, am_cd 4 90 [.inr (.inr 36), .inl 0] h none h1 ∧ am_x (am_cd 4) 204 (am_qv P) 0 26 [some (.inr (.inr 33)), some (.inl x1), some (.inl 0), none] [] (am_up h1 33 9 (min (h1 1 0) 10))) : ∃ h1, am_cd 5 204 [.inr (.inr 33), .inl x1] h none h1 ∧ P h1 := by
  refine am_outv (d := 4) (ls := [some (.inr (.inr 33)), some (.inl x1), none, none]) rfl ab204 ml204 (Nat.le_of_ble_eq_true rfl) np204 rfl ?_
  refine x_aload_n (q204c0 0 rfl) rfl ?_
  refine x_getr (q204c0 1 rfl) fd33_5 ?_
  refine x_iconst (q204c0 2 rfl) ?_
  obtain ⟨h1, w2, H⟩ := H
  refine x_csv (q204c0 3 rfl) rfl rfl rfl (Nat.le_of_ble_eq_true rfl) ⟨h1, w2, ?_⟩
  refine x_aload_n (q204c0 4 rfl) rfl ?_
  refine x_aload_n (q204c0 5 rfl) rfl ?_
  refine x_getr (q204c0 6 rfl) fd33_0 ?_
  refine x_cvi (q204c0 7 rfl) rfl oc1 rfl (Nat.le_of_ble_eq_true rfl) (am_lifti (Nat.le_of_ble_eq_true rfl) (e_Land_size (r1 := h1 1 0) (rfl) ?_))
  refine x_bipush (q204c0 8 rfl) ?_
  refine x_csi (q204c0 9 rfl) rfl rfl rfl (Nat.le_of_ble_eq_true rfl) (am_lifti (Nat.le_of_ble_eq_true rfl) (e_Math_min   ?_))
  refine x_putf (q204c0 10 rfl) fd33_9 ?_
  refine x_iconst (q204c0 11 rfl) ?_
  refine x_istore_n (q204c0 12 rfl) ⟨Nat.le_of_ble_eq_true rfl, trivial⟩ ?_
  exact H
theorem g_Dialects_begin_26 {h : am_H} {x1 : Int} {x2 : Int} {P : am_H → Prop} (H : (h 33 9 ≤ x2 → P h) ∧ (x2 < h 33 9 → (∃ h2, am_cd 4 176 [.inr (.inr 33), .inl x2, .inl x1] h none h2 ∧ am_x (am_cd 4) 204 (am_qv P) 0 42 [some (.inr (.inr 33)), some (.inl x1), some (.inl x2), some (.inl 0)] [] h2))) : am_x (am_cd 4) 204 (am_qv P) 0 26 [some (.inr (.inr 33)), some (.inl x1), some (.inl x2), none] [] h := by
  refine x_iload_n (q204c0 13 rfl) rfl ?_
  refine x_aload_n (q204c0 14 rfl) rfl ?_
  refine x_getf (q204c0 15 rfl) fd33_9 (rfl) ?_
  refine x_icmp_ge (q204c0 16 rfl) (fun c1 => ?_) (fun c1 => ?_)
  · replace H := H.1 c1
    exact x_ret (q204c0 42 rfl) H
  · replace H := H.2 c1
    refine x_aload_n (q204c0 17 rfl) rfl ?_
    refine x_iload_n (q204c0 18 rfl) rfl ?_
    refine x_iload_n (q204c0 19 rfl) rfl ?_
    obtain ⟨h2, w3, H⟩ := H
    refine x_cvv (q204c0 20 rfl) rfl oc33 rfl (Nat.le_of_ble_eq_true rfl) ⟨h2, w3, ?_⟩
    refine x_iconst (q204c0 21 rfl) ?_
    refine x_istore_n (q204c0 22 rfl) ⟨Nat.le_of_ble_eq_true rfl, trivial⟩ ?_
    exact H
theorem g_Dialects_begin_42 {h : am_H} {x1 : Int} {x2 : Int} {x3 : Int} {P : am_H → Prop} (H : (x2 ≤ x3 → ((am_ok (x2 + 1)) ∧ am_x (am_cd 4) 204 (am_qv P) 0 26 [some (.inr (.inr 33)), some (.inl x1), some (.inl (x2 + 1)), none] [] h)) ∧ (x3 < x2 → ((am_ok (x2 * 10) ∧ am_ok (x2 * 10 + x3)) ∧ (∃ a6 h5, am_cd 4 177 [.inr (.inr 33), .inl x3, .inl x2] h (some (.inl a6)) h5 ∧ (((0 ≤ x2 * 10 + x3 ∧ x2 * 10 + x3 < 100) ∧ am_ok (x3 + 1)) ∧ am_x (am_cd 4) 204 (am_qv P) 0 42 [some (.inr (.inr 33)), some (.inl x1), some (.inl x2), some (.inl (x3 + 1))] [] (am_up h5 35 (10 * x2 + x3) a6)))))) : am_x (am_cd 4) 204 (am_qv P) 0 42 [some (.inr (.inr 33)), some (.inl x1), some (.inl x2), some (.inl x3)] [] h := by
  refine x_iload_n (q204c0 23 rfl) rfl ?_
  refine x_iload_n (q204c0 24 rfl) rfl ?_
  refine x_icmp_ge (q204c0 25 rfl) (fun c1 => ?_) (fun c1 => ?_)
  · replace H := H.1 c1
    obtain ⟨s2, H⟩ := H
    refine x_iinc (q204c0 40 rfl) rfl ⟨Nat.le_of_ble_eq_true rfl, trivial⟩ s2 ?_
    refine x_goto (q204c0 41 rfl) ?_
    exact am_x_weak (ls' := [some (.inr (.inr 33)), some (.inl x1), some (.inl (x2 + 1)), some (.inl x3)]) (lle_c (lle_c (lle_c (lle_d trivial (lle_nil))))) H
  · replace H := H.2 c1
    obtain ⟨⟨s3, s4⟩, H⟩ := H
    refine x_aload_n (q204c0 26 rfl) rfl ?_
    refine x_getr (q204c0 27 rfl) fd33_4 ?_
    refine x_iload_n (q204c0 28 rfl) rfl ?_
    refine x_bipush (q204c0 29 rfl) ?_
    refine x_imul (q204c0 30 rfl) s3 ?_
    refine x_iload_n (q204c0 31 rfl) rfl ?_
    refine x_iadd (q204c0 32 rfl) s4 ?_
    refine x_aload_n (q204c0 33 rfl) rfl ?_
    refine x_iload_n (q204c0 34 rfl) rfl ?_
    refine x_iload_n (q204c0 35 rfl) rfl ?_
    obtain ⟨a6, h5, w7, H⟩ := H
    refine x_cvi (q204c0 36 rfl) rfl oc33 rfl (Nat.le_of_ble_eq_true rfl) ⟨a6, h5, w7, ?_⟩
    obtain ⟨⟨s8, s9⟩, H⟩ := H
    refine x_iastore (q204c0 37 rfl) (al35 _) rfl (Nat.le_of_ble_eq_true rfl) s8 (j := 10 * x2 + x3) (by omega) ?_
    refine x_iinc (q204c0 38 rfl) rfl ⟨Nat.le_of_ble_eq_true rfl, trivial⟩ s9 ?_
    refine x_goto (q204c0 39 rfl) ?_
    exact H
theorem e_Land_joins {h : am_H} {x1 : Int} {x2 : Int} {P : Int → am_H → Prop} (H : ∃ h1, am_cd 4 180 [.inr (.inr 1), .inl (am_shl 1 x1)] h none h1 ∧ am_x (am_cd 4) 205 (am_qi P) 0 9 [some (.inr (.inr 1)), none, some (.inl x2), some (.inl 0)] [] h1) : ∃ a h1, am_cd 5 205 [.inr (.inr 1), .inl x1, .inl x2] h (some (.inl a)) h1 ∧ P a h1 := by
  refine am_outi (d := 4) (ls := [some (.inr (.inr 1)), some (.inl x1), some (.inl x2), none]) rfl ab205 ml205 (Nat.le_of_ble_eq_true rfl) np205 rfl ?_
  refine x_aload_n (q205c0 0 rfl) rfl ?_
  refine x_iconst (q205c0 1 rfl) ?_
  refine x_iload_n (q205c0 2 rfl) rfl ?_
  refine x_ishl (q205c0 3 rfl) ?_
  obtain ⟨h1, w2, H⟩ := H
  refine x_cvv (q205c0 4 rfl) rfl oc1 rfl (Nat.le_of_ble_eq_true rfl) ⟨h1, w2, ?_⟩
  refine x_iconst (q205c0 5 rfl) ?_
  refine x_istore_n (q205c0 6 rfl) ⟨Nat.le_of_ble_eq_true rfl, trivial⟩ ?_
  exact am_x_weak (ls' := [some (.inr (.inr 1)), some (.inl x1), some (.inl x2), some (.inl 0)]) (lle_c (lle_d trivial (lle_c (lle_c (lle_nil))))) H
theorem g_Land_joins_9 {h : am_H} {x2 : Int} {x3 : Int} {P : Int → am_H → Prop} (H : (h 1 0 ≤ x3 → P 1 h) ∧ (x3 < h 1 0 → ((am_and x2 (am_shl 1 x3) = 0 → ((am_ok (x3 + 1)) ∧ am_x (am_cd 4) 205 (am_qi P) 0 9 [some (.inr (.inr 1)), none, some (.inl x2), some (.inl (x3 + 1))] [] h)) ∧ (am_and x2 (am_shl 1 x3) ≠ 0 → ((0 ≤ x3 ∧ x3 < 12) ∧ ((h 6 x3 < 1000000 → ((am_ok (x3 + 1)) ∧ am_x (am_cd 4) 205 (am_qi P) 0 9 [some (.inr (.inr 1)), none, some (.inl x2), some (.inl (x3 + 1))] [] h)) ∧ (1000000 ≤ h 6 x3 → P 0 h))))))) : am_x (am_cd 4) 205 (am_qi P) 0 9 [some (.inr (.inr 1)), none, some (.inl x2), some (.inl x3)] [] h := by
  refine x_iload_n (q205c0 7 rfl) rfl ?_
  refine x_aload_n (q205c0 8 rfl) rfl ?_
  refine x_getf (q205c0 9 rfl) fd1_0 (rfl) ?_
  refine x_icmp_ge (q205c0 10 rfl) (fun c1 => ?_) (fun c1 => ?_)
  · replace H := H.1 c1
    refine x_iconst (q205c0 25 rfl) ?_
    exact x_iretz (q205c0 26 rfl) (.inr rfl) H
  · replace H := H.2 c1
    refine x_iload_n (q205c0 11 rfl) rfl ?_
    refine x_iconst (q205c0 12 rfl) ?_
    refine x_iload_n (q205c0 13 rfl) rfl ?_
    refine x_ishl (q205c0 14 rfl) ?_
    refine x_iand (q205c0 15 rfl) ?_
    refine x_if_eq (q205c0 16 rfl) (fun c2 => ?_) (fun c2 => ?_)
    · replace H := H.1 c2
      obtain ⟨s3, H⟩ := H
      refine x_iinc (q205c0 23 rfl) rfl ⟨Nat.le_of_ble_eq_true rfl, trivial⟩ s3 ?_
      refine x_goto (q205c0 24 rfl) ?_
      exact H
    · replace H := H.2 c2
      refine x_aload_n (q205c0 17 rfl) rfl ?_
      refine x_iload_n (q205c0 18 rfl) rfl ?_
      refine x_cvi (q205c0 19 rfl) rfl oc1 rfl (Nat.le_of_ble_eq_true rfl) (am_lifti (Nat.le_of_ble_eq_true rfl) (e_Land_reaches (r1 := h 6 x3) (rfl) ?_))
      obtain ⟨s4, H⟩ := H
      refine ⟨s4, ?_⟩
      refine ⟨fun c5 => ?_, fun c5 => ?_⟩
      · replace H := H.1 c5
        obtain ⟨s6, H⟩ := H
        refine x_if_ne_t (q205c0 20 rfl) (by decide) ?_
        refine x_iinc (q205c0 23 rfl) rfl ⟨Nat.le_of_ble_eq_true rfl, trivial⟩ s6 ?_
        refine x_goto (q205c0 24 rfl) ?_
        exact H
      · replace H := H.2 c5
        refine x_if_ne_f (q205c0 20 rfl) (by decide) ?_
        refine x_iconst (q205c0 21 rfl) ?_
        exact x_iretz (q205c0 22 rfl) (.inl rfl) H
theorem e_Spread_fewest {h : am_H} {x1 : Int} {P : Int → am_H → Prop} (H : ∃ h1, am_cd 4 181 [.inr (.inr 44)] h none h1 ∧ ((am_ok (am_shl 1 (h1 1 0) - 1)) ∧ am_x (am_cd 4) 206 (am_qi P) 0 14 [some (.inr (.inr 44)), some (.inl x1), some (.inl (am_shl 1 (h1 1 0) - 1)), some (.inl 0), none] [] h1)) : ∃ a h1, am_cd 5 206 [.inr (.inr 44), .inl x1] h (some (.inl a)) h1 ∧ P a h1 := by
  refine am_outi (d := 4) (ls := [some (.inr (.inr 44)), some (.inl x1), none, none, none]) rfl ab206 ml206 (Nat.le_of_ble_eq_true rfl) np206 rfl ?_
  refine x_aload_n (q206c0 0 rfl) rfl ?_
  obtain ⟨h1, w2, H⟩ := H
  refine x_cvv (q206c0 1 rfl) rfl oc44 rfl (Nat.le_of_ble_eq_true rfl) ⟨h1, w2, ?_⟩
  refine x_aload_n (q206c0 2 rfl) rfl ?_
  refine x_getr (q206c0 3 rfl) fd44_0 ?_
  refine x_cvi (q206c0 4 rfl) rfl oc1 rfl (Nat.le_of_ble_eq_true rfl) (am_lifti (Nat.le_of_ble_eq_true rfl) (e_Land_all (r1 := h1 1 0) (rfl) ?_))
  obtain ⟨s3, H⟩ := H
  refine ⟨s3, ?_⟩
  refine x_istore_n (q206c0 5 rfl) ⟨Nat.le_of_ble_eq_true rfl, trivial⟩ ?_
  refine x_iconst (q206c0 6 rfl) ?_
  refine x_istore_n (q206c0 7 rfl) ⟨Nat.le_of_ble_eq_true rfl, trivial⟩ ?_
  exact H
theorem g_Spread_fewest_14 {h : am_H} {x1 : Int} {x2 : Int} {x3 : Int} {P : Int → am_H → Prop} (H : (3 < x3 → P (-1) h) ∧ (x3 ≤ 3 → am_x (am_cd 4) 206 (am_qi P) 0 22 [some (.inr (.inr 44)), some (.inl x1), some (.inl x2), some (.inl x3), some (.inl 0)] [] h)) : am_x (am_cd 4) 206 (am_qi P) 0 14 [some (.inr (.inr 44)), some (.inl x1), some (.inl x2), some (.inl x3), none] [] h := by
  refine x_iload_n (q206c0 8 rfl) rfl ?_
  refine x_iconst (q206c0 9 rfl) ?_
  refine x_icmp_gt (q206c0 10 rfl) (fun c1 => ?_) (fun c1 => ?_)
  · replace H := H.1 c1
    refine x_iconst (q206c0 32 rfl) ?_
    exact x_ireti (q206c0 33 rfl) zb206 H
  · replace H := H.2 c1
    refine x_iconst (q206c0 11 rfl) ?_
    refine x_istore (q206c0 12 rfl) ⟨Nat.le_of_ble_eq_true rfl, trivial⟩ ?_
    exact H
theorem g_Spread_fewest_22 {h : am_H} {x1 : Int} {x2 : Int} {x3 : Int} {x4 : Int} {P : Int → am_H → Prop} (H : (x2 < x4 → ((am_ok (x3 + 1)) ∧ am_x (am_cd 4) 206 (am_qi P) 0 14 [some (.inr (.inr 44)), some (.inl x1), some (.inl x2), some (.inl (x3 + 1)), none] [] h)) ∧ (x4 ≤ x2 → (∃ a4 h3, am_cd 4 86 [.inl x4] h (some (.inl a4)) h3 ∧ ((a4 ≠ x3 → ((am_ok (x4 + 1)) ∧ am_x (am_cd 4) 206 (am_qi P) 0 22 [some (.inr (.inr 44)), some (.inl x1), some (.inl x2), some (.inl x3), some (.inl (x4 + 1))] [] h3)) ∧ (a4 = x3 → (∃ a9 h8, am_cd 4 148 [.inr (.inr 44), .inl x4, .inl x1] h3 (some (.inl a9)) h8 ∧ ((a9 ≠ x2 → ((am_ok (x4 + 1)) ∧ am_x (am_cd 4) 206 (am_qi P) 0 22 [some (.inr (.inr 44)), some (.inl x1), some (.inl x2), some (.inl x3), some (.inl (x4 + 1))] [] h8)) ∧ (a9 = x2 → P x4 h8)))))))) : am_x (am_cd 4) 206 (am_qi P) 0 22 [some (.inr (.inr 44)), some (.inl x1), some (.inl x2), some (.inl x3), some (.inl x4)] [] h := by
  refine x_iload (q206c0 13 rfl) rfl ?_
  refine x_iload_n (q206c0 14 rfl) rfl ?_
  refine x_icmp_gt (q206c0 15 rfl) (fun c1 => ?_) (fun c1 => ?_)
  · replace H := H.1 c1
    obtain ⟨s2, H⟩ := H
    refine x_iinc (q206c0 30 rfl) rfl ⟨Nat.le_of_ble_eq_true rfl, trivial⟩ s2 ?_
    refine x_goto (q206c0 31 rfl) ?_
    exact am_x_weak (ls' := [some (.inr (.inr 44)), some (.inl x1), some (.inl x2), some (.inl (x3 + 1)), some (.inl x4)]) (lle_c (lle_c (lle_c (lle_c (lle_d trivial (lle_nil)))))) H
  · replace H := H.2 c1
    refine x_iload (q206c0 16 rfl) rfl ?_
    obtain ⟨a4, h3, w5, H⟩ := H
    refine x_csi (q206c0 17 rfl) rfl rfl rfl (Nat.le_of_ble_eq_true rfl) ⟨a4, h3, w5, ?_⟩
    refine x_iload_n (q206c0 18 rfl) rfl ?_
    refine x_icmp_ne (q206c0 19 rfl) (fun c6 => ?_) (fun c6 => ?_)
    · replace H := H.1 c6
      obtain ⟨s7, H⟩ := H
      refine x_iinc (q206c0 28 rfl) rfl ⟨Nat.le_of_ble_eq_true rfl, trivial⟩ s7 ?_
      refine x_goto (q206c0 29 rfl) ?_
      exact H
    · replace H := H.2 c6
      refine x_aload_n (q206c0 20 rfl) rfl ?_
      refine x_iload (q206c0 21 rfl) rfl ?_
      refine x_iload_n (q206c0 22 rfl) rfl ?_
      obtain ⟨a9, h8, w10, H⟩ := H
      refine x_cvi (q206c0 23 rfl) rfl oc44 rfl (Nat.le_of_ble_eq_true rfl) ⟨a9, h8, w10, ?_⟩
      refine x_iload_n (q206c0 24 rfl) rfl ?_
      refine x_icmp_ne (q206c0 25 rfl) (fun c11 => ?_) (fun c11 => ?_)
      · replace H := H.1 c11
        obtain ⟨s12, H⟩ := H
        refine x_iinc (q206c0 28 rfl) rfl ⟨Nat.le_of_ble_eq_true rfl, trivial⟩ s12 ?_
        refine x_goto (q206c0 29 rfl) ?_
        exact H
      · replace H := H.2 c11
        refine x_iload (q206c0 26 rfl) rfl ?_
        exact x_ireti (q206c0 27 rfl) zb206 H
theorem e_Tour_collect {h : am_H} {x1 : Int} {x2 : Int} {P : am_H → Prop} (H : am_x (am_cd 4) 207 (am_qv P) 0 7 [some (.inr (.inr 39)), some (.inl x1), some (.inl x2), some (.inl 0), none] [] (am_up h 39 1 0)) : ∃ h1, am_cd 5 207 [.inr (.inr 39), .inl x1, .inl x2] h none h1 ∧ P h1 := by
  refine am_outv (d := 4) (ls := [some (.inr (.inr 39)), some (.inl x1), some (.inl x2), none, none]) rfl ab207 ml207 (Nat.le_of_ble_eq_true rfl) np207 rfl ?_
  refine x_aload_n (q207c0 0 rfl) rfl ?_
  refine x_iconst (q207c0 1 rfl) ?_
  refine x_putf (q207c0 2 rfl) fd39_1 ?_
  refine x_iconst (q207c0 3 rfl) ?_
  refine x_istore_n (q207c0 4 rfl) ⟨Nat.le_of_ble_eq_true rfl, trivial⟩ ?_
  exact H
theorem g_Tour_collect_7 {h : am_H} {x1 : Int} {x2 : Int} {x3 : Int} {P : am_H → Prop} (H : (h 1 0 ≤ x3 → ((0 ≤ h 39 1 ∧ h 39 1 < 8) ∧ am_x (am_cd 4) 207 (am_qv P) 0 73 [some (.inr (.inr 39)), none, none, some (.inl 0), none] [] (am_up h 40 (h 39 1) x1))) ∧ (x3 < h 1 0 → ((7 ≤ h 39 1 → ((0 ≤ h 39 1 ∧ h 39 1 < 8) ∧ am_x (am_cd 4) 207 (am_qv P) 0 73 [some (.inr (.inr 39)), none, none, some (.inl 0), none] [] (am_up h 40 (h 39 1) x1))) ∧ (h 39 1 < 7 → ((am_and x2 (am_shl 1 x3) = 0 → ((am_ok (x3 + 1)) ∧ am_x (am_cd 4) 207 (am_qv P) 0 7 [some (.inr (.inr 39)), some (.inl x1), some (.inl x2), some (.inl (x3 + 1)), none] [] h)) ∧ (am_and x2 (am_shl 1 x3) ≠ 0 → (((0 ≤ h 39 1 ∧ h 39 1 < 8) ∧ am_ok (h 39 1 + 1) ∧ am_ok (x3 + 1)) ∧ am_x (am_cd 4) 207 (am_qv P) 0 7 [some (.inr (.inr 39)), some (.inl x1), some (.inl x2), some (.inl (x3 + 1)), none] [] (am_up (am_up h 40 (h 39 1) x3) 39 1 (h 39 1 + 1))))))))) : am_x (am_cd 4) 207 (am_qv P) 0 7 [some (.inr (.inr 39)), some (.inl x1), some (.inl x2), some (.inl x3), none] [] h := by
  refine x_iload_n (q207c0 5 rfl) rfl ?_
  refine x_aload_n (q207c0 6 rfl) rfl ?_
  refine x_getr (q207c0 7 rfl) fd39_0 ?_
  refine x_cvi (q207c0 8 rfl) rfl oc1 rfl (Nat.le_of_ble_eq_true rfl) (am_lifti (Nat.le_of_ble_eq_true rfl) (e_Land_size (r1 := h 1 0) (rfl) ?_))
  refine x_icmp_ge (q207c0 9 rfl) (fun c1 => ?_) (fun c1 => ?_)
  · replace H := H.1 c1
    obtain ⟨s2, H⟩ := H
    refine x_aload_n (q207c0 34 rfl) rfl ?_
    refine x_getr (q207c0 35 rfl) fd39_2 ?_
    refine x_aload_n (q207c0 36 rfl) rfl ?_
    refine x_getf (q207c0 37 rfl) fd39_1 (rfl) ?_
    refine x_iload_n (q207c0 38 rfl) rfl ?_
    refine x_iastore (q207c0 39 rfl) (al40 _) rfl (Nat.le_of_ble_eq_true rfl) s2 (j := h 39 1) rfl ?_
    refine x_iconst (q207c0 40 rfl) ?_
    refine x_istore_n (q207c0 41 rfl) ⟨Nat.le_of_ble_eq_true rfl, trivial⟩ ?_
    exact am_x_weak (ls' := [some (.inr (.inr 39)), some (.inl x1), some (.inl x2), some (.inl 0), none]) (lle_c (lle_d trivial (lle_d trivial (lle_c (lle_c (lle_nil)))))) H
  · replace H := H.2 c1
    refine x_aload_n (q207c0 10 rfl) rfl ?_
    refine x_getf (q207c0 11 rfl) fd39_1 (rfl) ?_
    refine x_bipush (q207c0 12 rfl) ?_
    refine x_icmp_ge (q207c0 13 rfl) (fun c3 => ?_) (fun c3 => ?_)
    · replace H := H.1 c3
      obtain ⟨s4, H⟩ := H
      refine x_aload_n (q207c0 34 rfl) rfl ?_
      refine x_getr (q207c0 35 rfl) fd39_2 ?_
      refine x_aload_n (q207c0 36 rfl) rfl ?_
      refine x_getf (q207c0 37 rfl) fd39_1 (rfl) ?_
      refine x_iload_n (q207c0 38 rfl) rfl ?_
      refine x_iastore (q207c0 39 rfl) (al40 _) rfl (Nat.le_of_ble_eq_true rfl) s4 (j := h 39 1) rfl ?_
      refine x_iconst (q207c0 40 rfl) ?_
      refine x_istore_n (q207c0 41 rfl) ⟨Nat.le_of_ble_eq_true rfl, trivial⟩ ?_
      exact am_x_weak (ls' := [some (.inr (.inr 39)), some (.inl x1), some (.inl x2), some (.inl 0), none]) (lle_c (lle_d trivial (lle_d trivial (lle_c (lle_c (lle_nil)))))) H
    · replace H := H.2 c3
      refine x_iload_n (q207c0 14 rfl) rfl ?_
      refine x_iconst (q207c0 15 rfl) ?_
      refine x_iload_n (q207c0 16 rfl) rfl ?_
      refine x_ishl (q207c0 17 rfl) ?_
      refine x_iand (q207c0 18 rfl) ?_
      refine x_if_eq (q207c0 19 rfl) (fun c5 => ?_) (fun c5 => ?_)
      · replace H := H.1 c5
        obtain ⟨s6, H⟩ := H
        refine x_iinc (q207c0 32 rfl) rfl ⟨Nat.le_of_ble_eq_true rfl, trivial⟩ s6 ?_
        refine x_goto (q207c0 33 rfl) ?_
        exact H
      · replace H := H.2 c5
        obtain ⟨⟨s7, s8, s9⟩, H⟩ := H
        refine x_aload_n (q207c0 20 rfl) rfl ?_
        refine x_getr (q207c0 21 rfl) fd39_2 ?_
        refine x_aload_n (q207c0 22 rfl) rfl ?_
        refine x_getf (q207c0 23 rfl) fd39_1 (rfl) ?_
        refine x_iload_n (q207c0 24 rfl) rfl ?_
        refine x_iastore (q207c0 25 rfl) (al40 _) rfl (Nat.le_of_ble_eq_true rfl) s7 (j := h 39 1) rfl ?_
        refine x_aload_n (q207c0 26 rfl) rfl ?_
        refine x_dup (q207c0 27 rfl) trivial ?_
        refine x_getf (q207c0 28 rfl) fd39_1 (up_c rfl (rfl)) ?_
        refine x_iconst (q207c0 29 rfl) ?_
        refine x_iadd (q207c0 30 rfl) s8 ?_
        refine x_putf (q207c0 31 rfl) fd39_1 ?_
        refine x_iinc (q207c0 32 rfl) rfl ⟨Nat.le_of_ble_eq_true rfl, trivial⟩ s9 ?_
        refine x_goto (q207c0 33 rfl) ?_
        exact H
