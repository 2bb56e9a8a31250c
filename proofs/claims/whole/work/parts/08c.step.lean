theorem g_Dialects_part_53 {n : Nat} {h : am_H} {x1 : Int} {x2 : Int} {x3 : Int} {x4 : Int} {x5 : Int} {P : am_H → Prop} (H : (x2 < x5 → P h) ∧ (x5 ≤ x2 → ((x4 ≤ x5 → P h) ∧ (x5 < x4 → ((am_ok (x1 * 4) ∧ am_ok (x1 * 4 + x5) ∧ (0 ≤ x1 * 4 + x5 ∧ x1 * 4 + x5 < 40)) ∧ ((x5 ≠ x2 → ((am_ok (h 36 (4 * x1 + x5) + 0)) ∧ ((am_ok (x3 + (h 36 (4 * x1 + x5) + 0))) ∧ ((h 33 8 ≤ x3 + (h 36 (4 * x1 + x5) + 0) → ((am_ok (x5 + 1)) ∧ am_x (am_cd (n + 2)) 141 (am_qv P) 0 53 [some (.inr (.inr 33)), some (.inl x1), some (.inl x2), some (.inl x3), some (.inl x4), some (.inl (x5 + 1)), none] [] h)) ∧ (x3 + (h 36 (4 * x1 + x5) + 0) < h 33 8 → ((0 ≤ x1 ∧ x1 < 10) ∧ (∃ h12, am_cd (n + 2) 19 [.inr (.inr 33), .inl x1, .inl x5, .inl 1] (am_up h 37 x1 x5) none h12 ∧ ((am_ok (x1 + 1) ∧ am_ok (x5 + 1)) ∧ (∃ h16, am_cd (n + 2) 141 [.inr (.inr 33), .inl (x1 + 1), .inl (max x2 (x5 + 1)), .inl (x3 + (h 36 (4 * x1 + x5) + 0)), .inl x4] h12 none h16 ∧ (∃ h18, am_cd (n + 2) 19 [.inr (.inr 33), .inl x1, .inl x5, .inl (-1)] h16 none h18 ∧ am_x (am_cd (n + 2)) 141 (am_qv P) 0 53 [some (.inr (.inr 33)), some (.inl x1), some (.inl x2), some (.inl x3), some (.inl x4), some (.inl (x5 + 1)), none] [] h18)))))))))) ∧ (x5 = x2 → ((am_ok (h 36 (4 * x1 + x5) + 5)) ∧ ((am_ok (x3 + (h 36 (4 * x1 + x5) + 5))) ∧ ((h 33 8 ≤ x3 + (h 36 (4 * x1 + x5) + 5) → ((am_ok (x5 + 1)) ∧ am_x (am_cd (n + 2)) 141 (am_qv P) 0 53 [some (.inr (.inr 33)), some (.inl x1), some (.inl x2), some (.inl x3), some (.inl x4), some (.inl (x5 + 1)), none] [] h)) ∧ (x3 + (h 36 (4 * x1 + x5) + 5) < h 33 8 → ((0 ≤ x1 ∧ x1 < 10) ∧ (∃ h25, am_cd (n + 2) 19 [.inr (.inr 33), .inl x1, .inl x5, .inl 1] (am_up h 37 x1 x5) none h25 ∧ ((am_ok (x1 + 1) ∧ am_ok (x5 + 1)) ∧ (∃ h29, am_cd (n + 2) 141 [.inr (.inr 33), .inl (x1 + 1), .inl (max x2 (x5 + 1)), .inl (x3 + (h 36 (4 * x1 + x5) + 5)), .inl x4] h25 none h29 ∧ (∃ h31, am_cd (n + 2) 19 [.inr (.inr 33), .inl x1, .inl x5, .inl (-1)] h29 none h31 ∧ am_x (am_cd (n + 2)) 141 (am_qv P) 0 53 [some (.inr (.inr 33)), some (.inl x1), some (.inl x2), some (.inl x3), some (.inl x4), some (.inl (x5 + 1)), none] [] h31)))))))))))))))) : am_x (am_cd (n + 2)) 141 (am_qv P) 0 53 [some (.inr (.inr 33)), some (.inl x1), some (.inl x2), some (.inl x3), some (.inl x4), some (.inl x5), none] [] h := by
  refine x_iload (q141c0 31 rfl) rfl ?_
  refine x_iload_n (q141c0 32 rfl) rfl ?_
  refine x_icmp_gt (q141c0 33 rfl) (fun c1 => ?_) (fun c1 => ?_)
  · replace H := H.1 c1
    exact x_ret (q141c1 18 rfl) H
  · replace H := H.2 c1
    refine x_iload (q141c0 34 rfl) rfl ?_
    refine x_iload (q141c0 35 rfl) rfl ?_
    refine x_icmp_ge (q141c0 36 rfl) (fun c2 => ?_) (fun c2 => ?_)
    · replace H := H.1 c2
      exact x_ret (q141c1 18 rfl) H
    · replace H := H.2 c2
      refine x_iload_n (q141c0 37 rfl) rfl ?_
      refine x_aload_n (q141c0 38 rfl) rfl ?_
      refine x_iload_n (q141c0 39 rfl) rfl ?_
      refine x_iload (q141c0 40 rfl) rfl ?_
      refine x_iload_n (q141c0 41 rfl) rfl ?_
      refine x_cvi (q141c0 42 rfl) rfl oc33 rfl (Nat.le_of_ble_eq_true rfl) (am_lifti (by omega) (e_Dialects_costOf (r1 := h 36 (4 * x1 + x5)) (rfl) ?_))
      obtain ⟨⟨s3, s4, s5⟩, H⟩ := H
      refine ⟨⟨s3, s4, s5⟩, ?_⟩
      refine ⟨fun c6 => ?_, fun c6 => ?_⟩
      · replace H := H.1 c6
        obtain ⟨s7, H⟩ := H
        refine ⟨s7, ?_⟩
        obtain ⟨s8, H⟩ := H
        refine x_iadd (q141c0 43 rfl) s8 ?_
        refine x_istore (q141c0 44 rfl) ⟨Nat.le_of_ble_eq_true rfl, trivial⟩ ?_
        refine x_iload (q141c0 45 rfl) rfl ?_
        refine x_aload_n (q141c0 46 rfl) rfl ?_
        refine x_getf (q141c0 47 rfl) fd33_8 (rfl) ?_
        refine x_icmp_ge (q141c0 48 rfl) (fun c9 => ?_) (fun c9 => ?_)
        · replace H := H.1 c9
          obtain ⟨s10, H⟩ := H
          refine x_iinc (q141c1 16 rfl) rfl ⟨Nat.le_of_ble_eq_true rfl, trivial⟩ s10 ?_
          refine x_goto (q141c1 17 rfl) ?_
          exact am_x_weak (ls' := [some (.inr (.inr 33)), some (.inl x1), some (.inl x2), some (.inl x3), some (.inl x4), some (.inl (x5 + 1)), some (.inl (x3 + (h 36 (4 * x1 + x5) + 0)))]) (lle_c (lle_c (lle_c (lle_c (lle_c (lle_c (lle_d trivial (lle_nil)))))))) H
        · replace H := H.2 c9
          obtain ⟨s11, H⟩ := H
          refine x_aload_n (q141c0 49 rfl) rfl ?_
          refine x_getr (q141c0 50 rfl) fd33_6 ?_
          refine x_iload_n (q141c0 51 rfl) rfl ?_
          refine x_iload (q141c0 52 rfl) rfl ?_
          refine x_iastore (q141c0 53 rfl) (al37 _) rfl (Nat.le_of_ble_eq_true rfl) s11 (j := x1) rfl ?_
          refine x_aload_n (q141c0 54 rfl) rfl ?_
          refine x_iload_n (q141c0 55 rfl) rfl ?_
          refine x_iload (q141c0 56 rfl) rfl ?_
          refine x_iconst (q141c0 57 rfl) ?_
          obtain ⟨h12, w13, H⟩ := H
          refine x_cvv (q141c0 58 rfl) rfl oc33 rfl (Nat.le_of_ble_eq_true rfl) ⟨h12, w13, ?_⟩
          obtain ⟨⟨s14, s15⟩, H⟩ := H
          refine x_aload_n (q141c0 59 rfl) rfl ?_
          refine x_iload_n (q141c1 0 rfl) rfl ?_
          refine x_iconst (q141c1 1 rfl) ?_
          refine x_iadd (q141c1 2 rfl) s14 ?_
          refine x_iload_n (q141c1 3 rfl) rfl ?_
          refine x_iload (q141c1 4 rfl) rfl ?_
          refine x_iconst (q141c1 5 rfl) ?_
          refine x_iadd (q141c1 6 rfl) s15 ?_
          refine x_csi (q141c1 7 rfl) rfl rfl rfl (Nat.le_of_ble_eq_true rfl) (am_lifti (by omega) (e_Math_max   ?_))
          refine x_iload (q141c1 8 rfl) rfl ?_
          refine x_iload (q141c1 9 rfl) rfl ?_
          obtain ⟨h16, w17, H⟩ := H
          refine x_cvv (q141c1 10 rfl) rfl oc33 rfl (Nat.le_of_ble_eq_true rfl) ⟨h16, w17, ?_⟩
          refine x_aload_n (q141c1 11 rfl) rfl ?_
          refine x_iload_n (q141c1 12 rfl) rfl ?_
          refine x_iload (q141c1 13 rfl) rfl ?_
          refine x_iconst (q141c1 14 rfl) ?_
          obtain ⟨h18, w19, H⟩ := H
          refine x_cvv (q141c1 15 rfl) rfl oc33 rfl (Nat.le_of_ble_eq_true rfl) ⟨h18, w19, ?_⟩
          refine x_iinc (q141c1 16 rfl) rfl ⟨Nat.le_of_ble_eq_true rfl, trivial⟩ s15 ?_
          refine x_goto (q141c1 17 rfl) ?_
          exact am_x_weak (ls' := [some (.inr (.inr 33)), some (.inl x1), some (.inl x2), some (.inl x3), some (.inl x4), some (.inl (x5 + 1)), some (.inl (x3 + (h 36 (4 * x1 + x5) + 0)))]) (lle_c (lle_c (lle_c (lle_c (lle_c (lle_c (lle_d trivial (lle_nil)))))))) H
      · replace H := H.2 c6
        obtain ⟨s20, H⟩ := H
        refine ⟨s20, ?_⟩
        obtain ⟨s21, H⟩ := H
        refine x_iadd (q141c0 43 rfl) s21 ?_
        refine x_istore (q141c0 44 rfl) ⟨Nat.le_of_ble_eq_true rfl, trivial⟩ ?_
        refine x_iload (q141c0 45 rfl) rfl ?_
        refine x_aload_n (q141c0 46 rfl) rfl ?_
        refine x_getf (q141c0 47 rfl) fd33_8 (rfl) ?_
        refine x_icmp_ge (q141c0 48 rfl) (fun c22 => ?_) (fun c22 => ?_)
        · replace H := H.1 c22
          obtain ⟨s23, H⟩ := H
          refine x_iinc (q141c1 16 rfl) rfl ⟨Nat.le_of_ble_eq_true rfl, trivial⟩ s23 ?_
          refine x_goto (q141c1 17 rfl) ?_
          exact am_x_weak (ls' := [some (.inr (.inr 33)), some (.inl x1), some (.inl x2), some (.inl x3), some (.inl x4), some (.inl (x5 + 1)), some (.inl (x3 + (h 36 (4 * x1 + x5) + 5)))]) (lle_c (lle_c (lle_c (lle_c (lle_c (lle_c (lle_d trivial (lle_nil)))))))) H
        · replace H := H.2 c22
          obtain ⟨s24, H⟩ := H
          refine x_aload_n (q141c0 49 rfl) rfl ?_
          refine x_getr (q141c0 50 rfl) fd33_6 ?_
          refine x_iload_n (q141c0 51 rfl) rfl ?_
          refine x_iload (q141c0 52 rfl) rfl ?_
          refine x_iastore (q141c0 53 rfl) (al37 _) rfl (Nat.le_of_ble_eq_true rfl) s24 (j := x1) rfl ?_
          refine x_aload_n (q141c0 54 rfl) rfl ?_
          refine x_iload_n (q141c0 55 rfl) rfl ?_
          refine x_iload (q141c0 56 rfl) rfl ?_
          refine x_iconst (q141c0 57 rfl) ?_
          obtain ⟨h25, w26, H⟩ := H
          refine x_cvv (q141c0 58 rfl) rfl oc33 rfl (Nat.le_of_ble_eq_true rfl) ⟨h25, w26, ?_⟩
          obtain ⟨⟨s27, s28⟩, H⟩ := H
          refine x_aload_n (q141c0 59 rfl) rfl ?_
          refine x_iload_n (q141c1 0 rfl) rfl ?_
          refine x_iconst (q141c1 1 rfl) ?_
          refine x_iadd (q141c1 2 rfl) s27 ?_
          refine x_iload_n (q141c1 3 rfl) rfl ?_
          refine x_iload (q141c1 4 rfl) rfl ?_
          refine x_iconst (q141c1 5 rfl) ?_
          refine x_iadd (q141c1 6 rfl) s28 ?_
          refine x_csi (q141c1 7 rfl) rfl rfl rfl (Nat.le_of_ble_eq_true rfl) (am_lifti (by omega) (e_Math_max   ?_))
          refine x_iload (q141c1 8 rfl) rfl ?_
          refine x_iload (q141c1 9 rfl) rfl ?_
          obtain ⟨h29, w30, H⟩ := H
          refine x_cvv (q141c1 10 rfl) rfl oc33 rfl (Nat.le_of_ble_eq_true rfl) ⟨h29, w30, ?_⟩
          refine x_aload_n (q141c1 11 rfl) rfl ?_
          refine x_iload_n (q141c1 12 rfl) rfl ?_
          refine x_iload (q141c1 13 rfl) rfl ?_
          refine x_iconst (q141c1 14 rfl) ?_
          obtain ⟨h31, w32, H⟩ := H
          refine x_cvv (q141c1 15 rfl) rfl oc33 rfl (Nat.le_of_ble_eq_true rfl) ⟨h31, w32, ?_⟩
          refine x_iinc (q141c1 16 rfl) rfl ⟨Nat.le_of_ble_eq_true rfl, trivial⟩ s28 ?_
          refine x_goto (q141c1 17 rfl) ?_
          exact am_x_weak (ls' := [some (.inr (.inr 33)), some (.inl x1), some (.inl x2), some (.inl x3), some (.inl x4), some (.inl (x5 + 1)), some (.inl (x3 + (h 36 (4 * x1 + x5) + 5)))]) (lle_c (lle_c (lle_c (lle_c (lle_c (lle_c (lle_d trivial (lle_nil)))))))) H
theorem e_Forms_addRead {h : am_H}  {P : Int → am_H → Prop} (H : (0 ≤ h 11 0 ∧ h 11 0 < 30) ∧ am_x (am_cd 2) 142 (am_qi P) 0 15 [some (.inr (.inr 11)), some (.inl 0)] [] (am_up h 12 (h 11 0) (h 11 3))) : ∃ a h1, am_cd 3 142 [.inr (.inr 11)] h (some (.inl a)) h1 ∧ P a h1 := by
  refine am_outi (d := 2) (ls := [some (.inr (.inr 11)), none]) rfl ab142 ml142 (Nat.le_of_ble_eq_true rfl) np142 rfl ?_
  obtain ⟨s1, H⟩ := H
  refine x_aload_n (q142c0 0 rfl) rfl ?_
  refine x_getr (q142c0 1 rfl) fd11_1 ?_
  refine x_aload_n (q142c0 2 rfl) rfl ?_
  refine x_getf (q142c0 3 rfl) fd11_0 (rfl) ?_
  refine x_aload_n (q142c0 4 rfl) rfl ?_
  refine x_getf (q142c0 5 rfl) fd11_3 (rfl) ?_
  refine x_iastore (q142c0 6 rfl) (al12 _) rfl (Nat.le_of_ble_eq_true rfl) s1 (j := h 11 0) rfl ?_
  refine x_iconst (q142c0 7 rfl) ?_
  refine x_istore_n (q142c0 8 rfl) ⟨Nat.le_of_ble_eq_true rfl, trivial⟩ ?_
  exact H
theorem g_Forms_addRead_15 {h : am_H} {x1 : Int} {P : Int → am_H → Prop} (H : (h 11 3 ≤ x1 → ((am_ok (h 11 0 * 30) ∧ am_ok (h 11 0 + 1) ∧ am_ok ((h 11 0 + 1) * 30)) ∧ (∃ h5, am_cd 2 137 [.inr (.inr 15), .inl (h 11 0 * 30), .inl ((h 11 0 + 1) * 30), .inl (-1)] h none h5 ∧ ((am_ok (h5 11 0 + 1)) ∧ P (h5 11 0) (am_up h5 11 0 (h5 11 0 + 1)))))) ∧ (x1 < h 11 3 → ((am_ok (h 11 0 * 8) ∧ am_ok (h 11 0 * 8 + x1) ∧ (0 ≤ x1 ∧ x1 < 8) ∧ (0 ≤ h 11 0 * 8 + x1 ∧ h 11 0 * 8 + x1 < 240) ∧ am_ok (x1 + 1)) ∧ am_x (am_cd 2) 142 (am_qi P) 0 15 [some (.inr (.inr 11)), some (.inl (x1 + 1))] [] (am_up h 13 (8 * h 11 0 + x1) (h 14 x1))))) : am_x (am_cd 2) 142 (am_qi P) 0 15 [some (.inr (.inr 11)), some (.inl x1)] [] h := by
  refine x_iload_n (q142c0 9 rfl) rfl ?_
  refine x_aload_n (q142c0 10 rfl) rfl ?_
  refine x_getf (q142c0 11 rfl) fd11_3 (rfl) ?_
  refine x_icmp_ge (q142c0 12 rfl) (fun c1 => ?_) (fun c1 => ?_)
  · replace H := H.1 c1
    obtain ⟨⟨s2, s3, s4⟩, H⟩ := H
    refine x_aload_n (q142c0 28 rfl) rfl ?_
    refine x_getr (q142c0 29 rfl) fd11_5 ?_
    refine x_aload_n (q142c0 30 rfl) rfl ?_
    refine x_getf (q142c0 31 rfl) fd11_0 (rfl) ?_
    refine x_bipush (q142c0 32 rfl) ?_
    refine x_imul (q142c0 33 rfl) s2 ?_
    refine x_aload_n (q142c0 34 rfl) rfl ?_
    refine x_getf (q142c0 35 rfl) fd11_0 (rfl) ?_
    refine x_iconst (q142c0 36 rfl) ?_
    refine x_iadd (q142c0 37 rfl) s3 ?_
    refine x_bipush (q142c0 38 rfl) ?_
    refine x_imul (q142c0 39 rfl) s4 ?_
    refine x_iconst (q142c0 40 rfl) ?_
    obtain ⟨h5, w6, H⟩ := H
    refine x_csv (q142c0 41 rfl) rfl rfl rfl (Nat.le_of_ble_eq_true rfl) ⟨h5, w6, ?_⟩
    obtain ⟨s7, H⟩ := H
    refine x_aload_n (q142c0 42 rfl) rfl ?_
    refine x_dup (q142c0 43 rfl) trivial ?_
    refine x_getf (q142c0 44 rfl) fd11_0 (rfl) ?_
    refine x_dup_x1 (q142c0 45 rfl) ⟨trivial, trivial⟩ ?_
    refine x_iconst (q142c0 46 rfl) ?_
    refine x_iadd (q142c0 47 rfl) s7 ?_
    refine x_putf (q142c0 48 rfl) fd11_0 ?_
    exact x_ireti (q142c0 49 rfl) zb142 H
  · replace H := H.2 c1
    obtain ⟨⟨s8, s9, s10, s11, s12⟩, H⟩ := H
    refine x_aload_n (q142c0 13 rfl) rfl ?_
    refine x_getr (q142c0 14 rfl) fd11_2 ?_
    refine x_aload_n (q142c0 15 rfl) rfl ?_
    refine x_getf (q142c0 16 rfl) fd11_0 (rfl) ?_
    refine x_bipush (q142c0 17 rfl) ?_
    refine x_imul (q142c0 18 rfl) s8 ?_
    refine x_iload_n (q142c0 19 rfl) rfl ?_
    refine x_iadd (q142c0 20 rfl) s9 ?_
    refine x_aload_n (q142c0 21 rfl) rfl ?_
    refine x_getr (q142c0 22 rfl) fd11_4 ?_
    refine x_iload_n (q142c0 23 rfl) rfl ?_
    refine x_iaload (q142c0 24 rfl) (al14 _) rfl (ag_l rfl rfl (rfl)) s10 ?_
    refine x_iastore (q142c0 25 rfl) (al13 _) rfl (Nat.le_of_ble_eq_true rfl) s11 (j := 8 * h 11 0 + x1) (by omega) ?_
    refine x_iinc (q142c0 26 rfl) rfl ⟨Nat.le_of_ble_eq_true rfl, trivial⟩ s12 ?_
    refine x_goto (q142c0 27 rfl) ?_
    exact H
theorem e_Forms_find {h : am_H} (p1 : Nat) (n1 : Nat) (hal1 : ∀ h : am_H, am_al h p1 = some n1) (hlo1 : p1 < 1000) {x2 : Int} {P : Int → am_H → Prop} (H : am_x (am_cd 2) 143 (am_qi P) 0 2 [some (.inr (.inr 11)), some (.inr (.inr p1)), some (.inl x2), some (.inl 0)] [] h) : ∃ a h1, am_cd 3 143 [.inr (.inr 11), .inr (.inr p1), .inl x2] h (some (.inl a)) h1 ∧ P a h1 := by
  refine am_outi (d := 2) (ls := [some (.inr (.inr 11)), some (.inr (.inr p1)), some (.inl x2), none]) rfl ab143 ml143 (Nat.le_of_ble_eq_true rfl) np143 rfl ?_
  refine x_iconst (q143c0 0 rfl) ?_
  refine x_istore_n (q143c0 1 rfl) ⟨Nat.le_of_ble_eq_true rfl, trivial⟩ ?_
  exact H
theorem g_Forms_find_2 {h : am_H} {x2 : Int} {x3 : Int} (p1 : Nat) (n1 : Nat) (hal1 : ∀ h : am_H, am_al h p1 = some n1) (hlo1 : p1 < 1000) {P : Int → am_H → Prop} (H : (h 11 0 ≤ x3 → P (-1) h) ∧ (x3 < h 11 0 → (∃ a3 h2, am_cd 2 95 [.inr (.inr 11), .inl x3, .inr (.inr p1), .inl x2] h (some (.inl a3)) h2 ∧ ((a3 = 0 → ((am_ok (x3 + 1)) ∧ am_x (am_cd 2) 143 (am_qi P) 0 2 [some (.inr (.inr 11)), some (.inr (.inr p1)), some (.inl x2), some (.inl (x3 + 1))] [] h2)) ∧ (a3 ≠ 0 → P x3 h2))))) : am_x (am_cd 2) 143 (am_qi P) 0 2 [some (.inr (.inr 11)), some (.inr (.inr p1)), some (.inl x2), some (.inl x3)] [] h := by
  refine x_iload_n (q143c0 2 rfl) rfl ?_
  refine x_aload_n (q143c0 3 rfl) rfl ?_
  refine x_getf (q143c0 4 rfl) fd11_0 (rfl) ?_
  refine x_icmp_ge (q143c0 5 rfl) (fun c1 => ?_) (fun c1 => ?_)
  · replace H := H.1 c1
    refine x_iconst (q143c0 16 rfl) ?_
    exact x_ireti (q143c0 17 rfl) zb143 H
  · replace H := H.2 c1
    refine x_aload_n (q143c0 6 rfl) rfl ?_
    refine x_iload_n (q143c0 7 rfl) rfl ?_
    refine x_aload_n (q143c0 8 rfl) rfl ?_
    refine x_iload_n (q143c0 9 rfl) rfl ?_
    obtain ⟨a3, h2, w4, H⟩ := H
    refine x_cvi (q143c0 10 rfl) rfl oc11 rfl (Nat.le_of_ble_eq_true rfl) ⟨a3, h2, w4, ?_⟩
    refine x_if_eq (q143c0 11 rfl) (fun c5 => ?_) (fun c5 => ?_)
    · replace H := H.1 c5
      obtain ⟨s6, H⟩ := H
      refine x_iinc (q143c0 14 rfl) rfl ⟨Nat.le_of_ble_eq_true rfl, trivial⟩ s6 ?_
      refine x_goto (q143c0 15 rfl) ?_
      exact H
    · replace H := H.2 c5
      refine x_iload_n (q143c0 12 rfl) rfl ?_
      exact x_ireti (q143c0 13 rfl) zb143 H
theorem e_Forms_apart {h : am_H} {x1 : Int} {x2 : Int} {P : Int → am_H → Prop} (H : (am_ok (max x1 x2 * 30)) ∧ ((am_ok (max x1 x2 * 30 + min x1 x2) ∧ (0 ≤ max x1 x2 * 30 + min x1 x2 ∧ max x1 x2 * 30 + min x1 x2 < 900)) ∧ ((h 15 (30 * max x1 x2 + min x1 x2) ≠ (-1) → P (h 15 (30 * max x1 x2 + min x1 x2)) h) ∧ (h 15 (30 * max x1 x2 + min x1 x2) = (-1) → (∃ a6 h5, am_cd 2 96 [.inr (.inr 11), .inl x1, .inl x2] h (some (.inl a6)) h5 ∧ P a6 (am_up h5 15 (30 * max x1 x2 + min x1 x2) a6)))))) : ∃ a h1, am_cd 3 144 [.inr (.inr 11), .inl x1, .inl x2] h (some (.inl a)) h1 ∧ P a h1 := by
  refine am_outi (d := 2) (ls := [some (.inr (.inr 11)), some (.inl x1), some (.inl x2), none]) rfl ab144 ml144 (Nat.le_of_ble_eq_true rfl) np144 rfl ?_
  refine x_iload_n (q144c0 0 rfl) rfl ?_
  refine x_iload_n (q144c0 1 rfl) rfl ?_
  refine x_csi (q144c0 2 rfl) rfl rfl rfl (Nat.le_of_ble_eq_true rfl) (am_lifti (Nat.le_of_ble_eq_true rfl) (e_Math_max   ?_))
  obtain ⟨s1, H⟩ := H
  refine x_bipush (q144c0 3 rfl) ?_
  refine x_imul (q144c0 4 rfl) s1 ?_
  refine x_iload_n (q144c0 5 rfl) rfl ?_
  refine x_iload_n (q144c0 6 rfl) rfl ?_
  refine x_csi (q144c0 7 rfl) rfl rfl rfl (Nat.le_of_ble_eq_true rfl) (am_lifti (Nat.le_of_ble_eq_true rfl) (e_Math_min   ?_))
  obtain ⟨⟨s2, s3⟩, H⟩ := H
  refine x_iadd (q144c0 8 rfl) s2 ?_
  refine x_istore_n (q144c0 9 rfl) ⟨Nat.le_of_ble_eq_true rfl, trivial⟩ ?_
  refine x_aload_n (q144c0 10 rfl) rfl ?_
  refine x_getr (q144c0 11 rfl) fd11_5 ?_
  refine x_iload_n (q144c0 12 rfl) rfl ?_
  refine x_iaload (q144c0 13 rfl) (al15 _) rfl (ag_l (j1 := 30 * max x1 x2 + min x1 x2) rfl (by omega) (rfl)) s3 ?_
  refine x_iconst (q144c0 14 rfl) ?_
  refine x_icmp_ne (q144c0 15 rfl) (fun c4 => ?_) (fun c4 => ?_)
  · replace H := H.1 c4
    refine x_aload_n (q144c0 24 rfl) rfl ?_
    refine x_getr (q144c0 25 rfl) fd11_5 ?_
    refine x_iload_n (q144c0 26 rfl) rfl ?_
    refine x_iaload (q144c0 27 rfl) (al15 _) rfl (ag_l (j1 := 30 * max x1 x2 + min x1 x2) rfl (by omega) (rfl)) s3 ?_
    exact x_ireti (q144c0 28 rfl) zb144 H
  · replace H := H.2 c4
    refine x_aload_n (q144c0 16 rfl) rfl ?_
    refine x_getr (q144c0 17 rfl) fd11_5 ?_
    refine x_iload_n (q144c0 18 rfl) rfl ?_
    refine x_aload_n (q144c0 19 rfl) rfl ?_
    refine x_iload_n (q144c0 20 rfl) rfl ?_
    refine x_iload_n (q144c0 21 rfl) rfl ?_
    obtain ⟨a6, h5, w7, H⟩ := H
    refine x_cvi (q144c0 22 rfl) rfl oc11 rfl (Nat.le_of_ble_eq_true rfl) ⟨a6, h5, w7, ?_⟩
    refine x_iastore (q144c0 23 rfl) (al15 _) rfl (Nat.le_of_ble_eq_true rfl) s3 (j := 30 * max x1 x2 + min x1 x2) (by omega) ?_
    refine x_aload_n (q144c0 24 rfl) rfl ?_
    refine x_getr (q144c0 25 rfl) fd11_5 ?_
    refine x_iload_n (q144c0 26 rfl) rfl ?_
    refine x_iaload (q144c0 27 rfl) (al15 _) rfl (ag_l (j1 := 30 * max x1 x2 + min x1 x2) rfl (by omega) (up_s rfl)) s3 ?_
    exact x_ireti (q144c0 28 rfl) zb144 H
theorem e_Land_neighboursOf {h : am_H} {x1 : Int} {P : Int → am_H → Prop} (H : am_x (am_cd 2) 145 (am_qi P) 0 4 [some (.inr (.inr 1)), some (.inl x1), some (.inl 0), some (.inl 0)] [] h) : ∃ a h1, am_cd 3 145 [.inr (.inr 1), .inl x1] h (some (.inl a)) h1 ∧ P a h1 := by
  refine am_outi (d := 2) (ls := [some (.inr (.inr 1)), some (.inl x1), none, none]) rfl ab145 ml145 (Nat.le_of_ble_eq_true rfl) np145 rfl ?_
  refine x_iconst (q145c0 0 rfl) ?_
  refine x_istore_n (q145c0 1 rfl) ⟨Nat.le_of_ble_eq_true rfl, trivial⟩ ?_
  refine x_iconst (q145c0 2 rfl) ?_
  refine x_istore_n (q145c0 3 rfl) ⟨Nat.le_of_ble_eq_true rfl, trivial⟩ ?_
  exact H
theorem g_Land_neighboursOf_4 {h : am_H} {x1 : Int} {x2 : Int} {x3 : Int} {P : Int → am_H → Prop} (H : (h 1 0 ≤ x3 → P x2 h) ∧ (x3 < h 1 0 → ((am_ok (x1 * 12) ∧ am_ok (x1 * 12 + x3)) ∧ ((0 ≤ x1 * 12 + x3 ∧ x1 * 12 + x3 < 144) ∧ ((h 5 (12 * x1 + x3) ≤ 0 → ((am_ok (x3 + 1)) ∧ am_x (am_cd 2) 145 (am_qi P) 0 4 [some (.inr (.inr 1)), some (.inl x1), some (.inl x2), some (.inl (x3 + 1))] [] h)) ∧ (0 < h 5 (12 * x1 + x3) → ((am_ok (x3 + 1)) ∧ am_x (am_cd 2) 145 (am_qi P) 0 4 [some (.inr (.inr 1)), some (.inl x1), some (.inl (am_or x2 (am_shl 1 x3))), some (.inl (x3 + 1))] [] h))))))) : am_x (am_cd 2) 145 (am_qi P) 0 4 [some (.inr (.inr 1)), some (.inl x1), some (.inl x2), some (.inl x3)] [] h := by
  refine x_iload_n (q145c0 4 rfl) rfl ?_
  refine x_aload_n (q145c0 5 rfl) rfl ?_
  refine x_getf (q145c0 6 rfl) fd1_0 (rfl) ?_
  refine x_icmp_ge (q145c0 7 rfl) (fun c1 => ?_) (fun c1 => ?_)
  · replace H := H.1 c1
    refine x_iload_n (q145c0 21 rfl) rfl ?_
    exact x_ireti (q145c0 22 rfl) zb145 H
  · replace H := H.2 c1
    refine x_aload_n (q145c0 8 rfl) rfl ?_
    refine x_iload_n (q145c0 9 rfl) rfl ?_
    refine x_iload_n (q145c0 10 rfl) rfl ?_
    refine x_cvi (q145c0 11 rfl) rfl oc1 rfl (Nat.le_of_ble_eq_true rfl) (am_lifti (Nat.le_of_ble_eq_true rfl) (e_Land_lengthOf (r1 := h 5 (12 * x1 + x3)) (rfl) ?_))
    obtain ⟨⟨s2, s3⟩, H⟩ := H
    refine ⟨⟨s2, s3⟩, ?_⟩
    obtain ⟨s4, H⟩ := H
    refine ⟨s4, ?_⟩
    refine x_if_le (q145c0 12 rfl) (fun c5 => ?_) (fun c5 => ?_)
    · replace H := H.1 c5
      obtain ⟨s6, H⟩ := H
      refine x_iinc (q145c0 19 rfl) rfl ⟨Nat.le_of_ble_eq_true rfl, trivial⟩ s6 ?_
      refine x_goto (q145c0 20 rfl) ?_
      exact H
    · replace H := H.2 c5
      obtain ⟨s7, H⟩ := H
      refine x_iload_n (q145c0 13 rfl) rfl ?_
      refine x_iconst (q145c0 14 rfl) ?_
      refine x_iload_n (q145c0 15 rfl) rfl ?_
      refine x_ishl (q145c0 16 rfl) ?_
      refine x_ior (q145c0 17 rfl) ?_
      refine x_istore_n (q145c0 18 rfl) ⟨Nat.le_of_ble_eq_true rfl, trivial⟩ ?_
      refine x_iinc (q145c0 19 rfl) rfl ⟨Nat.le_of_ble_eq_true rfl, trivial⟩ s7 ?_
      refine x_goto (q145c0 20 rfl) ?_
      exact H
theorem e_Land_goOn {h : am_H} {x1 : Int} {P : am_H → Prop} (H : am_x (am_cd 2) 146 (am_qv P) 0 2 [some (.inr (.inr 1)), some (.inl x1), some (.inl 0), none] [] h) : ∃ h1, am_cd 3 146 [.inr (.inr 1), .inl x1] h none h1 ∧ P h1 := by
  refine am_outv (d := 2) (ls := [some (.inr (.inr 1)), some (.inl x1), none, none]) rfl ab146 ml146 (Nat.le_of_ble_eq_true rfl) np146 rfl ?_
  refine x_iconst (q146c0 0 rfl) ?_
  refine x_istore_n (q146c0 1 rfl) ⟨Nat.le_of_ble_eq_true rfl, trivial⟩ ?_
  exact H
theorem g_Land_goOn_2 {h : am_H} {x1 : Int} {x2 : Int} {P : am_H → Prop} (H : (h 1 0 ≤ x2 → P h) ∧ (x2 < h 1 0 → ((am_ok (x1 * 12) ∧ am_ok (x1 * 12 + x2)) ∧ ((0 ≤ x1 * 12 + x2 ∧ x1 * 12 + x2 < 144) ∧ ((h 5 (12 * x1 + x2) ≤ 0 → ((am_ok (x2 + 1)) ∧ am_x (am_cd 2) 146 (am_qv P) 0 2 [some (.inr (.inr 1)), some (.inl x1), some (.inl (x2 + 1)), none] [] h)) ∧ (0 < h 5 (12 * x1 + x2) → (((0 ≤ x2 ∧ x2 < 12) ∧ (0 ≤ x1 ∧ x1 < 12) ∧ am_ok (h 6 x1 + h 5 (12 * x1 + x2))) ∧ ((am_ok (x2 + 1)) ∧ am_x (am_cd 2) 146 (am_qv P) 0 2 [some (.inr (.inr 1)), some (.inl x1), some (.inl (x2 + 1)), none] [] (am_up h 6 x2 (min (h 6 x2) (h 6 x1 + h 5 (12 * x1 + x2)))))))))))) : am_x (am_cd 2) 146 (am_qv P) 0 2 [some (.inr (.inr 1)), some (.inl x1), some (.inl x2), none] [] h := by
  refine x_iload_n (q146c0 2 rfl) rfl ?_
  refine x_aload_n (q146c0 3 rfl) rfl ?_
  refine x_getf (q146c0 4 rfl) fd1_0 (rfl) ?_
  refine x_icmp_ge (q146c0 5 rfl) (fun c1 => ?_) (fun c1 => ?_)
  · replace H := H.1 c1
    exact x_ret (q146c0 30 rfl) H
  · replace H := H.2 c1
    refine x_aload_n (q146c0 6 rfl) rfl ?_
    refine x_iload_n (q146c0 7 rfl) rfl ?_
    refine x_iload_n (q146c0 8 rfl) rfl ?_
    refine x_cvi (q146c0 9 rfl) rfl oc1 rfl (Nat.le_of_ble_eq_true rfl) (am_lifti (Nat.le_of_ble_eq_true rfl) (e_Land_lengthOf (r1 := h 5 (12 * x1 + x2)) (rfl) ?_))
    obtain ⟨⟨s2, s3⟩, H⟩ := H
    refine ⟨⟨s2, s3⟩, ?_⟩
    obtain ⟨s4, H⟩ := H
    refine ⟨s4, ?_⟩
    refine x_istore_n (q146c0 10 rfl) ⟨Nat.le_of_ble_eq_true rfl, trivial⟩ ?_
    refine x_iload_n (q146c0 11 rfl) rfl ?_
    refine x_if_le (q146c0 12 rfl) (fun c5 => ?_) (fun c5 => ?_)
    · replace H := H.1 c5
      obtain ⟨s6, H⟩ := H
      refine x_iinc (q146c0 28 rfl) rfl ⟨Nat.le_of_ble_eq_true rfl, trivial⟩ s6 ?_
      refine x_goto (q146c0 29 rfl) ?_
      exact am_x_weak (ls' := [some (.inr (.inr 1)), some (.inl x1), some (.inl (x2 + 1)), some (.inl (h 5 (12 * x1 + x2)))]) (lle_c (lle_c (lle_c (lle_d trivial (lle_nil))))) H
    · replace H := H.2 c5
      obtain ⟨⟨s7, s8, s9⟩, H⟩ := H
      refine x_aload_n (q146c0 13 rfl) rfl ?_
      refine x_getr (q146c0 14 rfl) fd1_5 ?_
      refine x_iload_n (q146c0 15 rfl) rfl ?_
      refine x_aload_n (q146c0 16 rfl) rfl ?_
      refine x_getr (q146c0 17 rfl) fd1_5 ?_
      refine x_iload_n (q146c0 18 rfl) rfl ?_
      refine x_iaload (q146c0 19 rfl) (al6 _) rfl (ag_l rfl rfl (rfl)) s7 ?_
      refine x_aload_n (q146c0 20 rfl) rfl ?_
      refine x_getr (q146c0 21 rfl) fd1_5 ?_
      refine x_iload_n (q146c0 22 rfl) rfl ?_
      refine x_iaload (q146c0 23 rfl) (al6 _) rfl (ag_l rfl rfl (rfl)) s8 ?_
      refine x_iload_n (q146c0 24 rfl) rfl ?_
      refine x_iadd (q146c0 25 rfl) s9 ?_
      refine x_csi (q146c0 26 rfl) rfl rfl rfl (Nat.le_of_ble_eq_true rfl) (am_lifti (Nat.le_of_ble_eq_true rfl) (e_Math_min   ?_))
      obtain ⟨s10, H⟩ := H
      refine x_iastore (q146c0 27 rfl) (al6 _) rfl (Nat.le_of_ble_eq_true rfl) s7 (j := x2) rfl ?_
      refine x_iinc (q146c0 28 rfl) rfl ⟨Nat.le_of_ble_eq_true rfl, trivial⟩ s10 ?_
      refine x_goto (q146c0 29 rfl) ?_
      exact am_x_weak (ls' := [some (.inr (.inr 1)), some (.inl x1), some (.inl (x2 + 1)), some (.inl (h 5 (12 * x1 + x2)))]) (lle_c (lle_c (lle_c (lle_d trivial (lle_nil))))) H
theorem e_Sheets_lay {h : am_H} {x1 : Int} {x2 : Int} {x3 : Int} {P : Int → am_H → Prop} (H : (0 ≤ x1 ∧ x1 < 4) ∧ ((x2 ≠ 0 → ((am_ok (x1 * 20) ∧ am_ok (x1 + 1) ∧ am_ok ((x1 + 1) * 20)) ∧ (∃ h6, am_cd 2 137 [.inr (.inr 50), .inl (x1 * 20), .inl ((x1 + 1) * 20), .inl 0] (am_up (am_up h 48 x1 x2) 49 x1 x3) none h6 ∧ P (h6 49 x1) h6))) ∧ (x2 = 0 → ((am_ok (x1 * 20) ∧ am_ok (x1 + 1) ∧ am_ok ((x1 + 1) * 20)) ∧ (∃ h11, am_cd 2 137 [.inr (.inr 50), .inl (x1 * 20), .inl ((x1 + 1) * 20), .inl 0] (am_up (am_up h 48 x1 x2) 49 x1 0) none h11 ∧ P (h11 49 x1) h11))))) : ∃ a h1, am_cd 3 147 [.inr (.inr 47), .inl x1, .inl x2, .inl x3] h (some (.inl a)) h1 ∧ P a h1 := by
  refine am_outi (d := 2) (ls := [some (.inr (.inr 47)), some (.inl x1), some (.inl x2), some (.inl x3)]) rfl ab147 ml147 (Nat.le_of_ble_eq_true rfl) np147 rfl ?_
  obtain ⟨s1, H⟩ := H
  refine x_aload_n (q147c0 0 rfl) rfl ?_
  refine x_getr (q147c0 1 rfl) fd47_0 ?_
  refine x_iload_n (q147c0 2 rfl) rfl ?_
  refine x_iload_n (q147c0 3 rfl) rfl ?_
  refine x_iastore (q147c0 4 rfl) (al48 _) rfl (Nat.le_of_ble_eq_true rfl) s1 (j := x1) rfl ?_
  refine x_aload_n (q147c0 5 rfl) rfl ?_
  refine x_getr (q147c0 6 rfl) fd47_1 ?_
  refine x_iload_n (q147c0 7 rfl) rfl ?_
  refine x_iload_n (q147c0 8 rfl) rfl ?_
  refine x_if_ne (q147c0 9 rfl) (fun c2 => ?_) (fun c2 => ?_)
  · replace H := H.1 c2
    obtain ⟨⟨s3, s4, s5⟩, H⟩ := H
    refine x_iload_n (q147c0 12 rfl) rfl ?_
    refine x_iastore (q147c0 13 rfl) (al49 _) rfl (Nat.le_of_ble_eq_true rfl) s1 (j := x1) rfl ?_
    refine x_aload_n (q147c0 14 rfl) rfl ?_
    refine x_getr (q147c0 15 rfl) fd47_2 ?_
    refine x_iload_n (q147c0 16 rfl) rfl ?_
    refine x_bipush (q147c0 17 rfl) ?_
    refine x_imul (q147c0 18 rfl) s3 ?_
    refine x_iload_n (q147c0 19 rfl) rfl ?_
    refine x_iconst (q147c0 20 rfl) ?_
    refine x_iadd (q147c0 21 rfl) s4 ?_
    refine x_bipush (q147c0 22 rfl) ?_
    refine x_imul (q147c0 23 rfl) s5 ?_
    refine x_iconst (q147c0 24 rfl) ?_
    obtain ⟨h6, w7, H⟩ := H
    refine x_csv (q147c0 25 rfl) rfl rfl rfl (Nat.le_of_ble_eq_true rfl) ⟨h6, w7, ?_⟩
    refine x_aload_n (q147c0 26 rfl) rfl ?_
    refine x_getr (q147c0 27 rfl) fd47_1 ?_
    refine x_iload_n (q147c0 28 rfl) rfl ?_
    refine x_iaload (q147c0 29 rfl) (al49 _) rfl (ag_l rfl rfl (rfl)) s1 ?_
    exact x_ireti (q147c0 30 rfl) zb147 H
  · replace H := H.2 c2
    obtain ⟨⟨s8, s9, s10⟩, H⟩ := H
    refine x_iconst (q147c0 10 rfl) ?_
    refine x_goto (q147c0 11 rfl) ?_
    refine x_iastore (q147c0 13 rfl) (al49 _) rfl (Nat.le_of_ble_eq_true rfl) s1 (j := x1) rfl ?_
    refine x_aload_n (q147c0 14 rfl) rfl ?_
    refine x_getr (q147c0 15 rfl) fd47_2 ?_
    refine x_iload_n (q147c0 16 rfl) rfl ?_
    refine x_bipush (q147c0 17 rfl) ?_
    refine x_imul (q147c0 18 rfl) s8 ?_
    refine x_iload_n (q147c0 19 rfl) rfl ?_
    refine x_iconst (q147c0 20 rfl) ?_
    refine x_iadd (q147c0 21 rfl) s9 ?_
    refine x_bipush (q147c0 22 rfl) ?_
    refine x_imul (q147c0 23 rfl) s10 ?_
    refine x_iconst (q147c0 24 rfl) ?_
    obtain ⟨h11, w12, H⟩ := H
    refine x_csv (q147c0 25 rfl) rfl rfl rfl (Nat.le_of_ble_eq_true rfl) ⟨h11, w12, ?_⟩
    refine x_aload_n (q147c0 26 rfl) rfl ?_
    refine x_getr (q147c0 27 rfl) fd47_1 ?_
    refine x_iload_n (q147c0 28 rfl) rfl ?_
    refine x_iaload (q147c0 29 rfl) (al49 _) rfl (ag_l rfl rfl (rfl)) s1 ?_
    exact x_ireti (q147c0 30 rfl) zb147 H
theorem e_Spread_after {h : am_H} {x1 : Int} {x2 : Int} {P : Int → am_H → Prop} (H : am_x (am_cd 2) 148 (am_qi P) 0 5 [some (.inr (.inr 44)), none, some (.inl x2), some (.inl x1), some (.inl 0), none] [] h) : ∃ a h1, am_cd 3 148 [.inr (.inr 44), .inl x1, .inl x2] h (some (.inl a)) h1 ∧ P a h1 := by
  refine am_outi (d := 2) (ls := [some (.inr (.inr 44)), some (.inl x1), some (.inl x2), none, none, none]) rfl ab148 ml148 (Nat.le_of_ble_eq_true rfl) np148 rfl ?_
  refine x_iload_n (q148c0 0 rfl) rfl ?_
  refine x_istore_n (q148c0 1 rfl) ⟨Nat.le_of_ble_eq_true rfl, trivial⟩ ?_
  refine x_iconst (q148c0 2 rfl) ?_
  refine x_istore (q148c0 3 rfl) ⟨Nat.le_of_ble_eq_true rfl, trivial⟩ ?_
  exact am_x_weak (ls' := [some (.inr (.inr 44)), some (.inl x1), some (.inl x2), some (.inl x1), some (.inl 0), none]) (lle_c (lle_d trivial (lle_c (lle_c (lle_c (lle_c (lle_nil))))))) H
theorem g_Spread_after_5 {h : am_H} {x2 : Int} {x3 : Int} {x4 : Int} {P : Int → am_H → Prop} (H : (x2 ≤ x4 → P x3 h) ∧ (x4 < x2 → (∃ a3 h2, am_cd 2 101 [.inr (.inr 44), .inl x3] h (some (.inl a3)) h2 ∧ ((am_or x3 a3 ≠ x3 → ((am_ok (x4 + 1)) ∧ am_x (am_cd 2) 148 (am_qi P) 0 5 [some (.inr (.inr 44)), none, some (.inl x2), some (.inl (am_or x3 a3)), some (.inl (x4 + 1)), none] [] h2)) ∧ (am_or x3 a3 = x3 → P x3 h2))))) : am_x (am_cd 2) 148 (am_qi P) 0 5 [some (.inr (.inr 44)), none, some (.inl x2), some (.inl x3), some (.inl x4), none] [] h := by
  refine x_iload (q148c0 4 rfl) rfl ?_
  refine x_iload_n (q148c0 5 rfl) rfl ?_
  refine x_icmp_ge (q148c0 6 rfl) (fun c1 => ?_) (fun c1 => ?_)
  · replace H := H.1 c1
    refine x_iload_n (q148c0 22 rfl) rfl ?_
    exact x_ireti (q148c0 23 rfl) zb148 H
  · replace H := H.2 c1
    refine x_iload_n (q148c0 7 rfl) rfl ?_
    refine x_aload_n (q148c0 8 rfl) rfl ?_
    refine x_iload_n (q148c0 9 rfl) rfl ?_
    obtain ⟨a3, h2, w4, H⟩ := H
    refine x_cvi (q148c0 10 rfl) rfl oc44 rfl (Nat.le_of_ble_eq_true rfl) ⟨a3, h2, w4, ?_⟩
    refine x_ior (q148c0 11 rfl) ?_
    refine x_istore (q148c0 12 rfl) ⟨Nat.le_of_ble_eq_true rfl, trivial⟩ ?_
    refine x_iload (q148c0 13 rfl) rfl ?_
    refine x_iload_n (q148c0 14 rfl) rfl ?_
    refine x_icmp_ne (q148c0 15 rfl) (fun c5 => ?_) (fun c5 => ?_)
    · replace H := H.1 c5
      obtain ⟨s6, H⟩ := H
      refine x_iload (q148c0 18 rfl) rfl ?_
      refine x_istore_n (q148c0 19 rfl) ⟨Nat.le_of_ble_eq_true rfl, trivial⟩ ?_
      refine x_iinc (q148c0 20 rfl) rfl ⟨Nat.le_of_ble_eq_true rfl, trivial⟩ s6 ?_
      refine x_goto (q148c0 21 rfl) ?_
      exact am_x_weak (ls' := [some (.inr (.inr 44)), none, some (.inl x2), some (.inl (am_or x3 a3)), some (.inl (x4 + 1)), some (.inl (am_or x3 a3))]) (lle_c (lle_c (lle_c (lle_c (lle_c (lle_d trivial (lle_nil))))))) H
    · replace H := H.2 c5
      refine x_iload_n (q148c0 16 rfl) rfl ?_
      exact x_ireti (q148c0 17 rfl) zb148 H
theorem e_Texts_faultOfTape {h : am_H}  {P : Int → am_H → Prop} (H : am_x (am_cd 2) 149 (am_qi P) 0 6 [some (.inr (.inr 24)), some (.inl 0), some (.inl 0), some (.inl 0)] [] h) : ∃ a h1, am_cd 3 149 [.inr (.inr 24)] h (some (.inl a)) h1 ∧ P a h1 := by
  refine am_outi (d := 2) (ls := [some (.inr (.inr 24)), none, none, none]) rfl ab149 ml149 (Nat.le_of_ble_eq_true rfl) np149 rfl ?_
  refine x_iconst (q149c0 0 rfl) ?_
  refine x_istore_n (q149c0 1 rfl) ⟨Nat.le_of_ble_eq_true rfl, trivial⟩ ?_
  refine x_iconst (q149c0 2 rfl) ?_
  refine x_istore_n (q149c0 3 rfl) ⟨Nat.le_of_ble_eq_true rfl, trivial⟩ ?_
  refine x_iconst (q149c0 4 rfl) ?_
  refine x_istore_n (q149c0 5 rfl) ⟨Nat.le_of_ble_eq_true rfl, trivial⟩ ?_
  exact H
theorem g_Texts_faultOfTape_6 {h : am_H} {x1 : Int} {x2 : Int} {x3 : Int} {P : Int → am_H → Prop} (H : (h 24 1 ≤ x3 → ((x1 ≠ 0 → P (h 24 1) h) ∧ (x1 = 0 → P (-1) h))) ∧ (x3 < h 24 1 → ((x2 = 12 → P x3 h) ∧ (x2 ≠ 12 → ((0 ≤ x3 ∧ x3 < 80) ∧ (∃ a6 h5, am_cd 2 102 [.inl x1, .inl (h 25 x3)] h (some (.inl a6)) h5 ∧ ((a6 ≠ 0 → ((h5 25 x3 ≠ 59 → ((am_ok (x1 + 1) ∧ am_ok (x2 + 0) ∧ am_ok (x3 + 1)) ∧ am_x (am_cd 2) 149 (am_qi P) 0 6 [some (.inr (.inr 24)), some (.inl (x1 + 1)), some (.inl (x2 + 0)), some (.inl (x3 + 1))] [] h5)) ∧ (h5 25 x3 = 59 → ((am_ok (x2 + 1) ∧ am_ok (x3 + 1)) ∧ am_x (am_cd 2) 149 (am_qi P) 0 6 [some (.inr (.inr 24)), some (.inl 0), some (.inl (x2 + 1)), some (.inl (x3 + 1))] [] h5)))) ∧ (a6 = 0 → P x3 h5)))))))) : am_x (am_cd 2) 149 (am_qi P) 0 6 [some (.inr (.inr 24)), some (.inl x1), some (.inl x2), some (.inl x3)] [] h := by
  refine x_iload_n (q149c0 6 rfl) rfl ?_
  refine x_aload_n (q149c0 7 rfl) rfl ?_
  refine x_getf (q149c0 8 rfl) fd24_1 (rfl) ?_
  refine x_icmp_ge (q149c0 9 rfl) (fun c1 => ?_) (fun c1 => ?_)
  · replace H := H.1 c1
    refine x_iload_n (q149c0 48 rfl) rfl ?_
    refine x_if_ne (q149c0 49 rfl) (fun c2 => ?_) (fun c2 => ?_)
    · replace H := H.1 c2
      refine x_aload_n (q149c0 52 rfl) rfl ?_
      refine x_getf (q149c0 53 rfl) fd24_1 (rfl) ?_
      exact x_ireti (q149c0 54 rfl) zb149 H
    · replace H := H.2 c2
      refine x_iconst (q149c0 50 rfl) ?_
      refine x_goto (q149c0 51 rfl) ?_
      exact x_ireti (q149c0 54 rfl) zb149 H
  · replace H := H.2 c1
    refine x_iload_n (q149c0 10 rfl) rfl ?_
    refine x_bipush (q149c0 11 rfl) ?_
    refine x_icmp_eq (q149c0 12 rfl) (fun c3 => ?_) (fun c3 => ?_)
    · replace H := H.1 c3
      refine x_iload_n (q149c0 20 rfl) rfl ?_
      exact x_ireti (q149c0 21 rfl) zb149 H
    · replace H := H.2 c3
      obtain ⟨s4, H⟩ := H
      refine x_iload_n (q149c0 13 rfl) rfl ?_
      refine x_aload_n (q149c0 14 rfl) rfl ?_
      refine x_getr (q149c0 15 rfl) fd24_2 ?_
      refine x_iload_n (q149c0 16 rfl) rfl ?_
      refine x_iaload (q149c0 17 rfl) (al25 _) rfl (ag_l rfl rfl (rfl)) s4 ?_
      obtain ⟨a6, h5, w7, H⟩ := H
      refine x_csi (q149c0 18 rfl) rfl rfl rfl (Nat.le_of_ble_eq_true rfl) ⟨a6, h5, w7, ?_⟩
      refine x_if_ne (q149c0 19 rfl) (fun c8 => ?_) (fun c8 => ?_)
      · replace H := H.1 c8
        refine x_aload_n (q149c0 22 rfl) rfl ?_
        refine x_getr (q149c0 23 rfl) fd24_2 ?_
        refine x_iload_n (q149c0 24 rfl) rfl ?_
        refine x_iaload (q149c0 25 rfl) (al25 _) rfl (ag_l rfl rfl (rfl)) s4 ?_
        refine x_bipush (q149c0 26 rfl) ?_
        refine x_icmp_ne (q149c0 27 rfl) (fun c9 => ?_) (fun c9 => ?_)
        · replace H := H.1 c9
          obtain ⟨⟨s10, s11, s12⟩, H⟩ := H
          refine x_iload_n (q149c0 30 rfl) rfl ?_
          refine x_iconst (q149c0 31 rfl) ?_
          refine x_iadd (q149c0 32 rfl) s10 ?_
          refine x_istore_n (q149c0 33 rfl) ⟨Nat.le_of_ble_eq_true rfl, trivial⟩ ?_
          refine x_iload_n (q149c0 34 rfl) rfl ?_
          refine x_aload_n (q149c0 35 rfl) rfl ?_
          refine x_getr (q149c0 36 rfl) fd24_2 ?_
          refine x_iload_n (q149c0 37 rfl) rfl ?_
          refine x_iaload (q149c0 38 rfl) (al25 _) rfl (ag_l rfl rfl (rfl)) s4 ?_
          refine x_bipush (q149c0 39 rfl) ?_
          refine x_icmp_ne_t (q149c0 40 rfl) c9 ?_
          refine x_iconst (q149c0 43 rfl) ?_
          refine x_iadd (q149c0 44 rfl) s11 ?_
          refine x_istore_n (q149c0 45 rfl) ⟨Nat.le_of_ble_eq_true rfl, trivial⟩ ?_
          refine x_iinc (q149c0 46 rfl) rfl ⟨Nat.le_of_ble_eq_true rfl, trivial⟩ s12 ?_
          refine x_goto (q149c0 47 rfl) ?_
          exact H
        · replace H := H.2 c9
          obtain ⟨⟨s13, s14⟩, H⟩ := H
          refine x_iconst (q149c0 28 rfl) ?_
          refine x_goto (q149c0 29 rfl) ?_
          refine x_istore_n (q149c0 33 rfl) ⟨Nat.le_of_ble_eq_true rfl, trivial⟩ ?_
          refine x_iload_n (q149c0 34 rfl) rfl ?_
          refine x_aload_n (q149c0 35 rfl) rfl ?_
          refine x_getr (q149c0 36 rfl) fd24_2 ?_
          refine x_iload_n (q149c0 37 rfl) rfl ?_
          refine x_iaload (q149c0 38 rfl) (al25 _) rfl (ag_l rfl rfl (rfl)) s4 ?_
          refine x_bipush (q149c0 39 rfl) ?_
          refine x_icmp_ne_f (q149c0 40 rfl) c9 ?_
          refine x_iconst (q149c0 41 rfl) ?_
          refine x_goto (q149c0 42 rfl) ?_
          refine x_iadd (q149c0 44 rfl) s13 ?_
          refine x_istore_n (q149c0 45 rfl) ⟨Nat.le_of_ble_eq_true rfl, trivial⟩ ?_
          refine x_iinc (q149c0 46 rfl) rfl ⟨Nat.le_of_ble_eq_true rfl, trivial⟩ s14 ?_
          refine x_goto (q149c0 47 rfl) ?_
          exact H
      · replace H := H.2 c8
        refine x_iload_n (q149c0 20 rfl) rfl ?_
        exact x_ireti (q149c0 21 rfl) zb149 H
theorem e_Texts_keep {h : am_H} {x1 : Int} {P : am_H → Prop} (H : am_x (am_cd 2) 150 (am_qv P) 0 4 [some (.inr (.inr 24)), some (.inl x1), some (.inl 0), some (.inl 0), none, none] [] h) : ∃ h1, am_cd 3 150 [.inr (.inr 24), .inl x1] h none h1 ∧ P h1 := by
  refine am_outv (d := 2) (ls := [some (.inr (.inr 24)), some (.inl x1), none, none, none, none]) rfl ab150 ml150 (Nat.le_of_ble_eq_true rfl) np150 rfl ?_
  refine x_iconst (q150c0 0 rfl) ?_
  refine x_istore_n (q150c0 1 rfl) ⟨Nat.le_of_ble_eq_true rfl, trivial⟩ ?_
  refine x_iconst (q150c0 2 rfl) ?_
  refine x_istore_n (q150c0 3 rfl) ⟨Nat.le_of_ble_eq_true rfl, trivial⟩ ?_
  exact H
theorem g_Texts_keep_4 {h : am_H} {x1 : Int} {x2 : Int} {x3 : Int} {P : am_H → Prop} (H : (am_ok (x3 + 4)) ∧ ((h 24 1 < x3 + 4 → ((0 ≤ x1 ∧ x1 < 4) ∧ P (am_up h 26 x1 x2))) ∧ (x3 + 4 ≤ h 24 1 → ((12 ≤ x2 → ((0 ≤ x1 ∧ x1 < 4) ∧ P (am_up h 26 x1 x2))) ∧ (x2 < 12 → ((am_ok (x3 + 3) ∧ (0 ≤ x3 + 3 ∧ x3 + 3 < 80)) ∧ ((h 25 (3 + x3) ≠ 47 → ((am_ok (x1 * 12) ∧ am_ok (x1 * 12 + x2) ∧ (0 ≤ x3 ∧ x3 < 80)) ∧ (∃ a13 h12, am_cd 2 103 [.inl (h 25 x3)] h (some (.inl a13)) h12 ∧ (((0 ≤ x1 * 12 + x2 ∧ x1 * 12 + x2 < 48) ∧ am_ok (x3 + 2) ∧ (0 ≤ x3 + 2 ∧ x3 + 2 < 80)) ∧ (∃ a19 h18, am_cd 2 103 [.inl (h12 25 (2 + x3))] (am_up h12 27 (12 * x1 + x2) a13) (some (.inl a19)) h18 ∧ ((am_ok (x2 + 1)) ∧ am_x (am_cd 2) 150 (am_qv P) 0 4 [some (.inr (.inr 24)), some (.inl x1), some (.inl (x2 + 1)), some (.inl (x3 + 4)), none, none] [] (am_up (am_up (am_up h18 28 (12 * x1 + x2) a19) 29 (12 * x1 + x2) 27) 30 (12 * x1 + x2) 27))))))) ∧ (h 25 (3 + x3) = 47 → ((am_ok (x3 + 8)) ∧ ((h 24 1 < x3 + 8 → ((am_ok (x1 * 12) ∧ am_ok (x1 * 12 + x2) ∧ (0 ≤ x3 ∧ x3 < 80)) ∧ (∃ a28 h27, am_cd 2 103 [.inl (h 25 x3)] h (some (.inl a28)) h27 ∧ (((0 ≤ x1 * 12 + x2 ∧ x1 * 12 + x2 < 48) ∧ am_ok (x3 + 2) ∧ (0 ≤ x3 + 2 ∧ x3 + 2 < 80)) ∧ (∃ a34 h33, am_cd 2 103 [.inl (h27 25 (2 + x3))] (am_up h27 27 (12 * x1 + x2) a28) (some (.inl a34)) h33 ∧ ((am_ok (x2 + 1)) ∧ am_x (am_cd 2) 150 (am_qv P) 0 4 [some (.inr (.inr 24)), some (.inl x1), some (.inl (x2 + 1)), some (.inl (x3 + 4)), none, none] [] (am_up (am_up (am_up h33 28 (12 * x1 + x2) a34) 29 (12 * x1 + x2) 27) 30 (12 * x1 + x2) 27))))))) ∧ (x3 + 8 ≤ h 24 1 → ((am_ok (x1 * 12) ∧ am_ok (x1 * 12 + x2) ∧ (0 ≤ x3 ∧ x3 < 80)) ∧ (∃ a41 h40, am_cd 2 103 [.inl (h 25 x3)] h (some (.inl a41)) h40 ∧ (((0 ≤ x1 * 12 + x2 ∧ x1 * 12 + x2 < 48) ∧ am_ok (x3 + 2) ∧ (0 ≤ x3 + 2 ∧ x3 + 2 < 80)) ∧ (∃ a47 h46, am_cd 2 103 [.inl (h40 25 (2 + x3))] (am_up h40 27 (12 * x1 + x2) a41) (some (.inl a47)) h46 ∧ ((0 ≤ x3 + 4 ∧ x3 + 4 < 80) ∧ (∃ a51 h50, am_cd 2 103 [.inl (h46 25 (4 + x3))] (am_up h46 28 (12 * x1 + x2) a47) (some (.inl a51)) h50 ∧ ((am_ok (x3 + 6) ∧ (0 ≤ x3 + 6 ∧ x3 + 6 < 80)) ∧ (∃ a56 h55, am_cd 2 103 [.inl (h50 25 (6 + x3))] (am_up h50 29 (12 * x1 + x2) a51) (some (.inl a56)) h55 ∧ ((am_ok (x2 + 1)) ∧ am_x (am_cd 2) 150 (am_qv P) 0 4 [some (.inr (.inr 24)), some (.inl x1), some (.inl (x2 + 1)), some (.inl (x3 + 8)), none, none] [] (am_up h55 30 (12 * x1 + x2) a56))))))))))))))))))))) : am_x (am_cd 2) 150 (am_qv P) 0 4 [some (.inr (.inr 24)), some (.inl x1), some (.inl x2), some (.inl x3), none, none] [] h := by
  obtain ⟨s1, H⟩ := H
  refine x_iload_n (q150c0 4 rfl) rfl ?_
  refine x_iconst (q150c0 5 rfl) ?_
  refine x_iadd (q150c0 6 rfl) s1 ?_
  refine x_aload_n (q150c0 7 rfl) rfl ?_
  refine x_getf (q150c0 8 rfl) fd24_1 (rfl) ?_
  refine x_icmp_gt (q150c0 9 rfl) (fun c2 => ?_) (fun c2 => ?_)
  · replace H := H.1 c2
    obtain ⟨s3, H⟩ := H
    refine x_aload_n (q150c1 37 rfl) rfl ?_
    refine x_getr (q150c1 38 rfl) fd24_3 ?_
    refine x_iload_n (q150c1 39 rfl) rfl ?_
    refine x_iload_n (q150c1 40 rfl) rfl ?_
    refine x_iastore (q150c1 41 rfl) (al26 _) rfl (Nat.le_of_ble_eq_true rfl) s3 (j := x1) rfl ?_
    exact x_ret (q150c1 42 rfl) H
  · replace H := H.2 c2
    refine x_iload_n (q150c0 10 rfl) rfl ?_
    refine x_bipush (q150c0 11 rfl) ?_
    refine x_icmp_ge (q150c0 12 rfl) (fun c4 => ?_) (fun c4 => ?_)
    · replace H := H.1 c4
      obtain ⟨s5, H⟩ := H
      refine x_aload_n (q150c1 37 rfl) rfl ?_
      refine x_getr (q150c1 38 rfl) fd24_3 ?_
      refine x_iload_n (q150c1 39 rfl) rfl ?_
      refine x_iload_n (q150c1 40 rfl) rfl ?_
      refine x_iastore (q150c1 41 rfl) (al26 _) rfl (Nat.le_of_ble_eq_true rfl) s5 (j := x1) rfl ?_
      exact x_ret (q150c1 42 rfl) H
    · replace H := H.2 c4
      obtain ⟨⟨s6, s7⟩, H⟩ := H
      refine x_aload_n (q150c0 13 rfl) rfl ?_
      refine x_getr (q150c0 14 rfl) fd24_2 ?_
      refine x_iload_n (q150c0 15 rfl) rfl ?_
      refine x_iconst (q150c0 16 rfl) ?_
      refine x_iadd (q150c0 17 rfl) s6 ?_
      refine x_iaload (q150c0 18 rfl) (al25 _) rfl (ag_l (j1 := 3 + x3) rfl (by omega) (rfl)) s7 ?_
      refine x_bipush (q150c0 19 rfl) ?_
      refine x_icmp_ne (q150c0 20 rfl) (fun c8 => ?_) (fun c8 => ?_)
      · replace H := H.1 c8
        obtain ⟨⟨s9, s10, s11⟩, H⟩ := H
        refine x_iconst (q150c0 29 rfl) ?_
        refine x_istore (q150c0 30 rfl) ⟨Nat.le_of_ble_eq_true rfl, trivial⟩ ?_
        refine x_iload_n (q150c0 31 rfl) rfl ?_
        refine x_bipush (q150c0 32 rfl) ?_
        refine x_imul (q150c0 33 rfl) s9 ?_
        refine x_iload_n (q150c0 34 rfl) rfl ?_
        refine x_iadd (q150c0 35 rfl) s10 ?_
        refine x_istore (q150c0 36 rfl) ⟨Nat.le_of_ble_eq_true rfl, trivial⟩ ?_
        refine x_aload_n (q150c0 37 rfl) rfl ?_
        refine x_getr (q150c0 38 rfl) fd24_4 ?_
        refine x_iload (q150c0 39 rfl) rfl ?_
        refine x_aload_n (q150c0 40 rfl) rfl ?_
        refine x_getr (q150c0 41 rfl) fd24_2 ?_
        refine x_iload_n (q150c0 42 rfl) rfl ?_
        refine x_iaload (q150c0 43 rfl) (al25 _) rfl (ag_l rfl rfl (rfl)) s11 ?_
        obtain ⟨a13, h12, w14, H⟩ := H
        refine x_csi (q150c0 44 rfl) rfl rfl rfl (Nat.le_of_ble_eq_true rfl) ⟨a13, h12, w14, ?_⟩
        obtain ⟨⟨s15, s16, s17⟩, H⟩ := H
        refine x_iastore (q150c0 45 rfl) (al27 _) rfl (Nat.le_of_ble_eq_true rfl) s15 (j := 12 * x1 + x2) (by omega) ?_
        refine x_aload_n (q150c0 46 rfl) rfl ?_
        refine x_getr (q150c0 47 rfl) fd24_5 ?_
        refine x_iload (q150c0 48 rfl) rfl ?_
        refine x_aload_n (q150c0 49 rfl) rfl ?_
        refine x_getr (q150c0 50 rfl) fd24_2 ?_
        refine x_iload_n (q150c0 51 rfl) rfl ?_
        refine x_iconst (q150c0 52 rfl) ?_
        refine x_iadd (q150c0 53 rfl) s16 ?_
        refine x_iaload (q150c0 54 rfl) (al25 _) rfl (ag_l (j1 := 2 + x3) rfl (by omega) (up_c rfl (rfl))) s17 ?_
        obtain ⟨a19, h18, w20, H⟩ := H
        refine x_csi (q150c0 55 rfl) rfl rfl rfl (Nat.le_of_ble_eq_true rfl) ⟨a19, h18, w20, ?_⟩
        obtain ⟨s21, H⟩ := H
        refine x_iastore (q150c0 56 rfl) (al28 _) rfl (Nat.le_of_ble_eq_true rfl) s15 (j := 12 * x1 + x2) (by omega) ?_
        refine x_aload_n (q150c0 57 rfl) rfl ?_
        refine x_getr (q150c0 58 rfl) fd24_6 ?_
        refine x_iload (q150c0 59 rfl) rfl ?_
        refine x_iload (q150c1 0 rfl) rfl ?_
        refine x_if_eq_t (q150c1 1 rfl) (by decide) ?_
        refine x_bipush (q150c1 10 rfl) ?_
        refine x_iastore (q150c1 11 rfl) (al29 _) rfl (Nat.le_of_ble_eq_true rfl) s15 (j := 12 * x1 + x2) (by omega) ?_
        refine x_aload_n (q150c1 12 rfl) rfl ?_
        refine x_getr (q150c1 13 rfl) fd24_7 ?_
        refine x_iload (q150c1 14 rfl) rfl ?_
        refine x_iload (q150c1 15 rfl) rfl ?_
        refine x_if_eq_t (q150c1 16 rfl) (by decide) ?_
        refine x_bipush (q150c1 25 rfl) ?_
        refine x_iastore (q150c1 26 rfl) (al30 _) rfl (Nat.le_of_ble_eq_true rfl) s15 (j := 12 * x1 + x2) (by omega) ?_
        refine x_iload_n (q150c1 27 rfl) rfl ?_
        refine x_iload (q150c1 28 rfl) rfl ?_
        refine x_if_eq_t (q150c1 29 rfl) (by decide) ?_
        refine x_iconst (q150c1 32 rfl) ?_
        refine x_iadd (q150c1 33 rfl) s1 ?_
        refine x_istore_n (q150c1 34 rfl) ⟨Nat.le_of_ble_eq_true rfl, trivial⟩ ?_
        refine x_iinc (q150c1 35 rfl) rfl ⟨Nat.le_of_ble_eq_true rfl, trivial⟩ s21 ?_
        refine x_goto (q150c1 36 rfl) ?_
        exact am_x_weak (ls' := [some (.inr (.inr 24)), some (.inl x1), some (.inl (x2 + 1)), some (.inl (x3 + 4)), some (.inl 0), some (.inl (x1 * 12 + x2))]) (lle_c (lle_c (lle_c (lle_c (lle_d trivial (lle_d trivial (lle_nil))))))) H
      · replace H := H.2 c8
        obtain ⟨s22, H⟩ := H
        refine x_iload_n (q150c0 21 rfl) rfl ?_
        refine x_bipush (q150c0 22 rfl) ?_
        refine x_iadd (q150c0 23 rfl) s22 ?_
        refine x_aload_n (q150c0 24 rfl) rfl ?_
        refine x_getf (q150c0 25 rfl) fd24_1 (rfl) ?_
        refine x_icmp_gt (q150c0 26 rfl) (fun c23 => ?_) (fun c23 => ?_)
        · replace H := H.1 c23
          obtain ⟨⟨s24, s25, s26⟩, H⟩ := H
          refine x_iconst (q150c0 29 rfl) ?_
          refine x_istore (q150c0 30 rfl) ⟨Nat.le_of_ble_eq_true rfl, trivial⟩ ?_
          refine x_iload_n (q150c0 31 rfl) rfl ?_
          refine x_bipush (q150c0 32 rfl) ?_
          refine x_imul (q150c0 33 rfl) s24 ?_
          refine x_iload_n (q150c0 34 rfl) rfl ?_
          refine x_iadd (q150c0 35 rfl) s25 ?_
          refine x_istore (q150c0 36 rfl) ⟨Nat.le_of_ble_eq_true rfl, trivial⟩ ?_
          refine x_aload_n (q150c0 37 rfl) rfl ?_
          refine x_getr (q150c0 38 rfl) fd24_4 ?_
          refine x_iload (q150c0 39 rfl) rfl ?_
          refine x_aload_n (q150c0 40 rfl) rfl ?_
          refine x_getr (q150c0 41 rfl) fd24_2 ?_
          refine x_iload_n (q150c0 42 rfl) rfl ?_
          refine x_iaload (q150c0 43 rfl) (al25 _) rfl (ag_l rfl rfl (rfl)) s26 ?_
          obtain ⟨a28, h27, w29, H⟩ := H
          refine x_csi (q150c0 44 rfl) rfl rfl rfl (Nat.le_of_ble_eq_true rfl) ⟨a28, h27, w29, ?_⟩
          obtain ⟨⟨s30, s31, s32⟩, H⟩ := H
          refine x_iastore (q150c0 45 rfl) (al27 _) rfl (Nat.le_of_ble_eq_true rfl) s30 (j := 12 * x1 + x2) (by omega) ?_
          refine x_aload_n (q150c0 46 rfl) rfl ?_
          refine x_getr (q150c0 47 rfl) fd24_5 ?_
          refine x_iload (q150c0 48 rfl) rfl ?_
          refine x_aload_n (q150c0 49 rfl) rfl ?_
          refine x_getr (q150c0 50 rfl) fd24_2 ?_
          refine x_iload_n (q150c0 51 rfl) rfl ?_
          refine x_iconst (q150c0 52 rfl) ?_
          refine x_iadd (q150c0 53 rfl) s31 ?_
          refine x_iaload (q150c0 54 rfl) (al25 _) rfl (ag_l (j1 := 2 + x3) rfl (by omega) (up_c rfl (rfl))) s32 ?_
          obtain ⟨a34, h33, w35, H⟩ := H
          refine x_csi (q150c0 55 rfl) rfl rfl rfl (Nat.le_of_ble_eq_true rfl) ⟨a34, h33, w35, ?_⟩
          obtain ⟨s36, H⟩ := H
          refine x_iastore (q150c0 56 rfl) (al28 _) rfl (Nat.le_of_ble_eq_true rfl) s30 (j := 12 * x1 + x2) (by omega) ?_
          refine x_aload_n (q150c0 57 rfl) rfl ?_
          refine x_getr (q150c0 58 rfl) fd24_6 ?_
          refine x_iload (q150c0 59 rfl) rfl ?_
          refine x_iload (q150c1 0 rfl) rfl ?_
          refine x_if_eq_t (q150c1 1 rfl) (by decide) ?_
          refine x_bipush (q150c1 10 rfl) ?_
          refine x_iastore (q150c1 11 rfl) (al29 _) rfl (Nat.le_of_ble_eq_true rfl) s30 (j := 12 * x1 + x2) (by omega) ?_
          refine x_aload_n (q150c1 12 rfl) rfl ?_
          refine x_getr (q150c1 13 rfl) fd24_7 ?_
          refine x_iload (q150c1 14 rfl) rfl ?_
          refine x_iload (q150c1 15 rfl) rfl ?_
          refine x_if_eq_t (q150c1 16 rfl) (by decide) ?_
          refine x_bipush (q150c1 25 rfl) ?_
          refine x_iastore (q150c1 26 rfl) (al30 _) rfl (Nat.le_of_ble_eq_true rfl) s30 (j := 12 * x1 + x2) (by omega) ?_
          refine x_iload_n (q150c1 27 rfl) rfl ?_
          refine x_iload (q150c1 28 rfl) rfl ?_
          refine x_if_eq_t (q150c1 29 rfl) (by decide) ?_
          refine x_iconst (q150c1 32 rfl) ?_
          refine x_iadd (q150c1 33 rfl) s1 ?_
          refine x_istore_n (q150c1 34 rfl) ⟨Nat.le_of_ble_eq_true rfl, trivial⟩ ?_
          refine x_iinc (q150c1 35 rfl) rfl ⟨Nat.le_of_ble_eq_true rfl, trivial⟩ s36 ?_
          refine x_goto (q150c1 36 rfl) ?_
          exact am_x_weak (ls' := [some (.inr (.inr 24)), some (.inl x1), some (.inl (x2 + 1)), some (.inl (x3 + 4)), some (.inl 0), some (.inl (x1 * 12 + x2))]) (lle_c (lle_c (lle_c (lle_c (lle_d trivial (lle_d trivial (lle_nil))))))) H
        · replace H := H.2 c23
          obtain ⟨⟨s37, s38, s39⟩, H⟩ := H
          refine x_iconst (q150c0 27 rfl) ?_
          refine x_goto (q150c0 28 rfl) ?_
          refine x_istore (q150c0 30 rfl) ⟨Nat.le_of_ble_eq_true rfl, trivial⟩ ?_
          refine x_iload_n (q150c0 31 rfl) rfl ?_
          refine x_bipush (q150c0 32 rfl) ?_
          refine x_imul (q150c0 33 rfl) s37 ?_
          refine x_iload_n (q150c0 34 rfl) rfl ?_
          refine x_iadd (q150c0 35 rfl) s38 ?_
          refine x_istore (q150c0 36 rfl) ⟨Nat.le_of_ble_eq_true rfl, trivial⟩ ?_
          refine x_aload_n (q150c0 37 rfl) rfl ?_
          refine x_getr (q150c0 38 rfl) fd24_4 ?_
          refine x_iload (q150c0 39 rfl) rfl ?_
          refine x_aload_n (q150c0 40 rfl) rfl ?_
          refine x_getr (q150c0 41 rfl) fd24_2 ?_
          refine x_iload_n (q150c0 42 rfl) rfl ?_
          refine x_iaload (q150c0 43 rfl) (al25 _) rfl (ag_l rfl rfl (rfl)) s39 ?_
          obtain ⟨a41, h40, w42, H⟩ := H
          refine x_csi (q150c0 44 rfl) rfl rfl rfl (Nat.le_of_ble_eq_true rfl) ⟨a41, h40, w42, ?_⟩
          obtain ⟨⟨s43, s44, s45⟩, H⟩ := H
          refine x_iastore (q150c0 45 rfl) (al27 _) rfl (Nat.le_of_ble_eq_true rfl) s43 (j := 12 * x1 + x2) (by omega) ?_
          refine x_aload_n (q150c0 46 rfl) rfl ?_
          refine x_getr (q150c0 47 rfl) fd24_5 ?_
          refine x_iload (q150c0 48 rfl) rfl ?_
          refine x_aload_n (q150c0 49 rfl) rfl ?_
          refine x_getr (q150c0 50 rfl) fd24_2 ?_
          refine x_iload_n (q150c0 51 rfl) rfl ?_
          refine x_iconst (q150c0 52 rfl) ?_
          refine x_iadd (q150c0 53 rfl) s44 ?_
          refine x_iaload (q150c0 54 rfl) (al25 _) rfl (ag_l (j1 := 2 + x3) rfl (by omega) (up_c rfl (rfl))) s45 ?_
          obtain ⟨a47, h46, w48, H⟩ := H
          refine x_csi (q150c0 55 rfl) rfl rfl rfl (Nat.le_of_ble_eq_true rfl) ⟨a47, h46, w48, ?_⟩
          obtain ⟨s49, H⟩ := H
          refine x_iastore (q150c0 56 rfl) (al28 _) rfl (Nat.le_of_ble_eq_true rfl) s43 (j := 12 * x1 + x2) (by omega) ?_
          refine x_aload_n (q150c0 57 rfl) rfl ?_
          refine x_getr (q150c0 58 rfl) fd24_6 ?_
          refine x_iload (q150c0 59 rfl) rfl ?_
          refine x_iload (q150c1 0 rfl) rfl ?_
          refine x_if_eq_f (q150c1 1 rfl) (by decide) ?_
          refine x_aload_n (q150c1 2 rfl) rfl ?_
          refine x_getr (q150c1 3 rfl) fd24_2 ?_
          refine x_iload_n (q150c1 4 rfl) rfl ?_
          refine x_iconst (q150c1 5 rfl) ?_
          refine x_iadd (q150c1 6 rfl) s1 ?_
          refine x_iaload (q150c1 7 rfl) (al25 _) rfl (ag_l (j1 := 4 + x3) rfl (by omega) (up_c rfl (rfl))) s49 ?_
          obtain ⟨a51, h50, w52, H⟩ := H
          refine x_csi (q150c1 8 rfl) rfl rfl rfl (Nat.le_of_ble_eq_true rfl) ⟨a51, h50, w52, ?_⟩
          obtain ⟨⟨s53, s54⟩, H⟩ := H
          refine x_goto (q150c1 9 rfl) ?_
          refine x_iastore (q150c1 11 rfl) (al29 _) rfl (Nat.le_of_ble_eq_true rfl) s43 (j := 12 * x1 + x2) (by omega) ?_
          refine x_aload_n (q150c1 12 rfl) rfl ?_
          refine x_getr (q150c1 13 rfl) fd24_7 ?_
          refine x_iload (q150c1 14 rfl) rfl ?_
          refine x_iload (q150c1 15 rfl) rfl ?_
          refine x_if_eq_f (q150c1 16 rfl) (by decide) ?_
          refine x_aload_n (q150c1 17 rfl) rfl ?_
          refine x_getr (q150c1 18 rfl) fd24_2 ?_
          refine x_iload_n (q150c1 19 rfl) rfl ?_
          refine x_bipush (q150c1 20 rfl) ?_
          refine x_iadd (q150c1 21 rfl) s53 ?_
          refine x_iaload (q150c1 22 rfl) (al25 _) rfl (ag_l (j1 := 6 + x3) rfl (by omega) (up_c rfl (rfl))) s54 ?_
          obtain ⟨a56, h55, w57, H⟩ := H
          refine x_csi (q150c1 23 rfl) rfl rfl rfl (Nat.le_of_ble_eq_true rfl) ⟨a56, h55, w57, ?_⟩
          obtain ⟨s58, H⟩ := H
          refine x_goto (q150c1 24 rfl) ?_
          refine x_iastore (q150c1 26 rfl) (al30 _) rfl (Nat.le_of_ble_eq_true rfl) s43 (j := 12 * x1 + x2) (by omega) ?_
          refine x_iload_n (q150c1 27 rfl) rfl ?_
          refine x_iload (q150c1 28 rfl) rfl ?_
          refine x_if_eq_f (q150c1 29 rfl) (by decide) ?_
          refine x_bipush (q150c1 30 rfl) ?_
          refine x_goto (q150c1 31 rfl) ?_
          refine x_iadd (q150c1 33 rfl) s22 ?_
          refine x_istore_n (q150c1 34 rfl) ⟨Nat.le_of_ble_eq_true rfl, trivial⟩ ?_
          refine x_iinc (q150c1 35 rfl) rfl ⟨Nat.le_of_ble_eq_true rfl, trivial⟩ s58 ?_
          refine x_goto (q150c1 36 rfl) ?_
          exact am_x_weak (ls' := [some (.inr (.inr 24)), some (.inl x1), some (.inl (x2 + 1)), some (.inl (x3 + 8)), some (.inl 1), some (.inl (x1 * 12 + x2))]) (lle_c (lle_c (lle_c (lle_c (lle_d trivial (lle_d trivial (lle_nil))))))) H
theorem e_Texts_turn {h : am_H} {x1 : Int} {x2 : Int} {P : Int → am_H → Prop} (H : (0 ≤ x1 ∧ x1 < 30) ∧ am_x (am_cd 2) 151 (am_qi P) 0 14 [some (.inr (.inr 24)), some (.inl x1), some (.inl x2), some (.inl 0)] [] (am_up h 24 8 (h 12 x1))) : ∃ a h1, am_cd 3 151 [.inr (.inr 24), .inl x1, .inl x2] h (some (.inl a)) h1 ∧ P a h1 := by
  refine am_outi (d := 2) (ls := [some (.inr (.inr 24)), some (.inl x1), some (.inl x2), none]) rfl ab151 ml151 (Nat.le_of_ble_eq_true rfl) np151 rfl ?_
  refine x_aload_n (q151c0 0 rfl) rfl ?_
  refine x_aload_n (q151c0 1 rfl) rfl ?_
  refine x_getr (q151c0 2 rfl) fd24_0 ?_
  refine x_iload_n (q151c0 3 rfl) rfl ?_
  refine x_cvi (q151c0 4 rfl) rfl oc11 rfl (Nat.le_of_ble_eq_true rfl) (am_lifti (Nat.le_of_ble_eq_true rfl) (e_Forms_lengthOf (r1 := h 12 x1) (rfl) ?_))
  obtain ⟨s1, H⟩ := H
  refine ⟨s1, ?_⟩
  refine x_putf (q151c0 5 rfl) fd24_8 ?_
  refine x_iconst (q151c0 6 rfl) ?_
  refine x_istore_n (q151c0 7 rfl) ⟨Nat.le_of_ble_eq_true rfl, trivial⟩ ?_
  exact H
theorem g_Texts_turn_14 {h : am_H} {x1 : Int} {x2 : Int} {x3 : Int} {P : Int → am_H → Prop} (H : (h 24 8 ≤ x3 → am_x (am_cd 2) 151 (am_qi P) 0 45 [some (.inr (.inr 24)), none, some (.inl x2), some (.inl 0)] [] h) ∧ (x3 < h 24 8 → ((am_ok (x1 * 8) ∧ am_ok (x1 * 8 + x3) ∧ (0 ≤ x1 * 8 + x3 ∧ x1 * 8 + x3 < 240)) ∧ (((0 ≤ x3 ∧ x3 < 8) ∧ am_ok (x3 + 1)) ∧ am_x (am_cd 2) 151 (am_qi P) 0 14 [some (.inr (.inr 24)), some (.inl x1), some (.inl x2), some (.inl (x3 + 1))] [] (am_up h 31 x3 (h 13 (8 * x1 + x3))))))) : am_x (am_cd 2) 151 (am_qi P) 0 14 [some (.inr (.inr 24)), some (.inl x1), some (.inl x2), some (.inl x3)] [] h := by
  refine x_iload_n (q151c0 8 rfl) rfl ?_
  refine x_aload_n (q151c0 9 rfl) rfl ?_
  refine x_getf (q151c0 10 rfl) fd24_8 (rfl) ?_
  refine x_icmp_ge (q151c0 11 rfl) (fun c1 => ?_) (fun c1 => ?_)
  · replace H := H.1 c1
    refine x_iconst (q151c0 23 rfl) ?_
    refine x_istore_n (q151c0 24 rfl) ⟨Nat.le_of_ble_eq_true rfl, trivial⟩ ?_
    exact am_x_weak (ls' := [some (.inr (.inr 24)), some (.inl x1), some (.inl x2), some (.inl 0)]) (lle_c (lle_d trivial (lle_c (lle_c (lle_nil))))) H
  · replace H := H.2 c1
    refine x_aload_n (q151c0 12 rfl) rfl ?_
    refine x_getr (q151c0 13 rfl) fd24_9 ?_
    refine x_iload_n (q151c0 14 rfl) rfl ?_
    refine x_aload_n (q151c0 15 rfl) rfl ?_
    refine x_getr (q151c0 16 rfl) fd24_0 ?_
    refine x_iload_n (q151c0 17 rfl) rfl ?_
    refine x_iload_n (q151c0 18 rfl) rfl ?_
    refine x_cvi (q151c0 19 rfl) rfl oc11 rfl (Nat.le_of_ble_eq_true rfl) (am_lifti (Nat.le_of_ble_eq_true rfl) (e_Forms_soundOf (r1 := h 13 (8 * x1 + x3)) (rfl) ?_))
    obtain ⟨⟨s2, s3, s4⟩, H⟩ := H
    refine ⟨⟨s2, s3, s4⟩, ?_⟩
    obtain ⟨⟨s5, s6⟩, H⟩ := H
    refine x_iastore (q151c0 20 rfl) (al31 _) rfl (Nat.le_of_ble_eq_true rfl) s5 (j := x3) rfl ?_
    refine x_iinc (q151c0 21 rfl) rfl ⟨Nat.le_of_ble_eq_true rfl, trivial⟩ s6 ?_
    refine x_goto (q151c0 22 rfl) ?_
    exact H
theorem g_Texts_turn_45 {h : am_H} {x2 : Int} {x3 : Int} {P : Int → am_H → Prop} (H : (0 ≤ x2 ∧ x2 < 4) ∧ ((h 26 x2 ≤ x3 → P (h 24 8) h) ∧ (x3 < h 26 x2 → ((am_ok (x2 * 12) ∧ am_ok (x2 * 12 + x3)) ∧ (∃ h5, am_cd 2 104 [.inr (.inr 24), .inl (x2 * 12 + x3)] h none h5 ∧ ((am_ok (x3 + 1)) ∧ am_x (am_cd 2) 151 (am_qi P) 0 45 [some (.inr (.inr 24)), none, some (.inl x2), some (.inl (x3 + 1))] [] h5)))))) : am_x (am_cd 2) 151 (am_qi P) 0 45 [some (.inr (.inr 24)), none, some (.inl x2), some (.inl x3)] [] h := by
  obtain ⟨s1, H⟩ := H
  refine x_iload_n (q151c0 25 rfl) rfl ?_
  refine x_aload_n (q151c0 26 rfl) rfl ?_
  refine x_getr (q151c0 27 rfl) fd24_3 ?_
  refine x_iload_n (q151c0 28 rfl) rfl ?_
  refine x_iaload (q151c0 29 rfl) (al26 _) rfl (ag_l rfl rfl (rfl)) s1 ?_
  refine x_icmp_ge (q151c0 30 rfl) (fun c2 => ?_) (fun c2 => ?_)
  · replace H := H.1 c2
    refine x_aload_n (q151c0 40 rfl) rfl ?_
    refine x_getf (q151c0 41 rfl) fd24_8 (rfl) ?_
    exact x_ireti (q151c0 42 rfl) zb151 H
  · replace H := H.2 c2
    obtain ⟨⟨s3, s4⟩, H⟩ := H
    refine x_aload_n (q151c0 31 rfl) rfl ?_
    refine x_iload_n (q151c0 32 rfl) rfl ?_
    refine x_bipush (q151c0 33 rfl) ?_
    refine x_imul (q151c0 34 rfl) s3 ?_
    refine x_iload_n (q151c0 35 rfl) rfl ?_
    refine x_iadd (q151c0 36 rfl) s4 ?_
    obtain ⟨h5, w6, H⟩ := H
    refine x_cvv (q151c0 37 rfl) rfl oc24 rfl (Nat.le_of_ble_eq_true rfl) ⟨h5, w6, ?_⟩
    obtain ⟨s7, H⟩ := H
    refine x_iinc (q151c0 38 rfl) rfl ⟨Nat.le_of_ble_eq_true rfl, trivial⟩ s7 ?_
    refine x_goto (q151c0 39 rfl) ?_
    exact H
theorem e_Tour_restOf {h : am_H} {x1 : Int} {x2 : Int} {P : Int → am_H → Prop} (H : ∃ a2 h1, am_cd 2 105 [.inr (.inr 39), .inl x1, .inl x2] h (some (.inl a2)) h1 ∧ ((a2 ≠ (-1) → ((am_ok (x2 * 8) ∧ am_ok (x2 * 8 + a2) ∧ (0 ≤ x2 * 8 + a2 ∧ x2 * 8 + a2 < 64) ∧ am_ok (am_or x1 (am_shl 1 a2) * 7) ∧ am_ok (am_or x1 (am_shl 1 a2) * 7 + a2) ∧ (0 ≤ am_or x1 (am_shl 1 a2) * 7 + a2 ∧ am_or x1 (am_shl 1 a2) * 7 + a2 < 896) ∧ am_ok (h1 41 (8 * x2 + a2) + h1 42 (7 * am_or x1 (am_shl 1 a2) + a2))) ∧ P (h1 41 (8 * x2 + a2) + h1 42 (7 * am_or x1 (am_shl 1 a2) + a2)) h1)) ∧ (a2 = (-1) → ((am_ok (x2 * 8) ∧ am_ok (x2 * 8 + h1 39 1) ∧ (0 ≤ x2 * 8 + h1 39 1 ∧ x2 * 8 + h1 39 1 < 64)) ∧ P (h1 41 (8 * x2 + h1 39 1)) h1)))) : ∃ a h1, am_cd 3 152 [.inr (.inr 39), .inl x1, .inl x2] h (some (.inl a)) h1 ∧ P a h1 := by
  refine am_outi (d := 2) (ls := [some (.inr (.inr 39)), some (.inl x1), some (.inl x2), none]) rfl ab152 ml152 (Nat.le_of_ble_eq_true rfl) np152 rfl ?_
  refine x_aload_n (q152c0 0 rfl) rfl ?_
  refine x_iload_n (q152c0 1 rfl) rfl ?_
  refine x_iload_n (q152c0 2 rfl) rfl ?_
  obtain ⟨a2, h1, w3, H⟩ := H
  refine x_cvi (q152c0 3 rfl) rfl oc39 rfl (Nat.le_of_ble_eq_true rfl) ⟨a2, h1, w3, ?_⟩
  refine x_istore_n (q152c0 4 rfl) ⟨Nat.le_of_ble_eq_true rfl, trivial⟩ ?_
  refine x_iload_n (q152c0 5 rfl) rfl ?_
  refine x_iconst (q152c0 6 rfl) ?_
  refine x_icmp_ne (q152c0 7 rfl) (fun c4 => ?_) (fun c4 => ?_)
  · replace H := H.1 c4
    refine x_aload_n (q152c0 18 rfl) rfl ?_
    refine x_iload_n (q152c0 19 rfl) rfl ?_
    refine x_iload_n (q152c0 20 rfl) rfl ?_
    refine x_iload_n (q152c0 21 rfl) rfl ?_
    refine x_cvi (q152c0 22 rfl) rfl oc39 rfl (Nat.le_of_ble_eq_true rfl) (am_lifti (Nat.le_of_ble_eq_true rfl) (e_Tour_sumBy (r1 := h1 41 (8 * x2 + a2)) (r2 := h1 42 (7 * am_or x1 (am_shl 1 a2) + a2)) (rfl) (rfl) ?_))
    obtain ⟨⟨s5, s6, s7, s8, s9, s10, s11⟩, H⟩ := H
    refine ⟨⟨s5, s6, s7, s8, s9, s10, s11⟩, ?_⟩
    exact x_ireti (q152c0 23 rfl) zb152 H
  · replace H := H.2 c4
    obtain ⟨⟨s12, s13, s14⟩, H⟩ := H
    refine x_aload_n (q152c0 8 rfl) rfl ?_
    refine x_getr (q152c0 9 rfl) fd39_3 ?_
    refine x_iload_n (q152c0 10 rfl) rfl ?_
    refine x_bipush (q152c0 11 rfl) ?_
    refine x_imul (q152c0 12 rfl) s12 ?_
    refine x_aload_n (q152c0 13 rfl) rfl ?_
    refine x_getf (q152c0 14 rfl) fd39_1 (rfl) ?_
    refine x_iadd (q152c0 15 rfl) s13 ?_
    refine x_iaload (q152c0 16 rfl) (al41 _) rfl (ag_l (j1 := 8 * x2 + h1 39 1) rfl (by omega) (rfl)) s14 ?_
    refine x_goto (q152c0 17 rfl) ?_
    exact x_ireti (q152c0 23 rfl) zb152 H
theorem e_Tour_follow {h : am_H}  {P : am_H → Prop} (H : am_x (am_cd 2) 153 (am_qv P) 0 9 [some (.inr (.inr 39)), some (.inl 0), some (.inl (h 39 1)), some (.inl 0)] [] h) : ∃ h1, am_cd 3 153 [.inr (.inr 39)] h none h1 ∧ P h1 := by
  refine am_outv (d := 2) (ls := [some (.inr (.inr 39)), none, none, none]) rfl ab153 ml153 (Nat.le_of_ble_eq_true rfl) np153 rfl ?_
  refine x_iconst (q153c0 0 rfl) ?_
  refine x_istore_n (q153c0 1 rfl) ⟨Nat.le_of_ble_eq_true rfl, trivial⟩ ?_
  refine x_aload_n (q153c0 2 rfl) rfl ?_
  refine x_getf (q153c0 3 rfl) fd39_1 (rfl) ?_
  refine x_istore_n (q153c0 4 rfl) ⟨Nat.le_of_ble_eq_true rfl, trivial⟩ ?_
  refine x_iconst (q153c0 5 rfl) ?_
  refine x_istore_n (q153c0 6 rfl) ⟨Nat.le_of_ble_eq_true rfl, trivial⟩ ?_
  exact H
theorem g_Tour_follow_9 {h : am_H} {x1 : Int} {x2 : Int} {x3 : Int} {P : am_H → Prop} (H : (h 39 1 ≤ x3 → P h) ∧ (x3 < h 39 1 → (∃ a3 h2, am_cd 2 105 [.inr (.inr 39), .inl x1, .inl x2] h (some (.inl a3)) h2 ∧ ((a3 ≠ (-1) → (((0 ≤ a3 ∧ a3 < 8) ∧ (0 ≤ x3 ∧ x3 < 7) ∧ am_ok (x3 + 1)) ∧ am_x (am_cd 2) 153 (am_qv P) 0 9 [some (.inr (.inr 39)), some (.inl (am_or x1 (am_shl 1 a3))), some (.inl a3), some (.inl (x3 + 1))] [] (am_up h2 43 x3 (h2 40 a3)))) ∧ (a3 = (-1) → P h2))))) : am_x (am_cd 2) 153 (am_qv P) 0 9 [some (.inr (.inr 39)), some (.inl x1), some (.inl x2), some (.inl x3)] [] h := by
  refine x_iload_n (q153c0 7 rfl) rfl ?_
  refine x_aload_n (q153c0 8 rfl) rfl ?_
  refine x_getf (q153c0 9 rfl) fd39_1 (rfl) ?_
  refine x_icmp_ge (q153c0 10 rfl) (fun c1 => ?_) (fun c1 => ?_)
  · replace H := H.1 c1
    exact x_ret (q153c0 36 rfl) H
  · replace H := H.2 c1
    refine x_aload_n (q153c0 11 rfl) rfl ?_
    refine x_iload_n (q153c0 12 rfl) rfl ?_
    refine x_iload_n (q153c0 13 rfl) rfl ?_
    obtain ⟨a3, h2, w4, H⟩ := H
    refine x_cvi (q153c0 14 rfl) rfl oc39 rfl (Nat.le_of_ble_eq_true rfl) ⟨a3, h2, w4, ?_⟩
    refine x_istore_n (q153c0 15 rfl) ⟨Nat.le_of_ble_eq_true rfl, trivial⟩ ?_
    refine x_iload_n (q153c0 16 rfl) rfl ?_
    refine x_iconst (q153c0 17 rfl) ?_
    refine x_icmp_ne (q153c0 18 rfl) (fun c5 => ?_) (fun c5 => ?_)
    · replace H := H.1 c5
      obtain ⟨⟨s6, s7, s8⟩, H⟩ := H
      refine x_iload_n (q153c0 20 rfl) rfl ?_
      refine x_iconst (q153c0 21 rfl) ?_
      refine x_iload_n (q153c0 22 rfl) rfl ?_
      refine x_ishl (q153c0 23 rfl) ?_
      refine x_ior (q153c0 24 rfl) ?_
      refine x_istore_n (q153c0 25 rfl) ⟨Nat.le_of_ble_eq_true rfl, trivial⟩ ?_
      refine x_aload_n (q153c0 26 rfl) rfl ?_
      refine x_getr (q153c0 27 rfl) fd39_5 ?_
      refine x_iload_n (q153c0 28 rfl) rfl ?_
      refine x_aload_n (q153c0 29 rfl) rfl ?_
      refine x_getr (q153c0 30 rfl) fd39_2 ?_
      refine x_iload_n (q153c0 31 rfl) rfl ?_
      refine x_iaload (q153c0 32 rfl) (al40 _) rfl (ag_l rfl rfl (rfl)) s6 ?_
      refine x_iastore (q153c0 33 rfl) (al43 _) rfl (Nat.le_of_ble_eq_true rfl) s7 (j := x3) rfl ?_
      refine x_iinc (q153c0 34 rfl) rfl ⟨Nat.le_of_ble_eq_true rfl, trivial⟩ s8 ?_
      refine x_goto (q153c0 35 rfl) ?_
      exact H
    · replace H := H.2 c5
      exact x_ret (q153c0 19 rfl) H
theorem e_At_village {h : am_H} {x1 : Int} {x2 : Int} {P : Int → am_H → Prop} (H : (x1 < 0 → ((am_ok (h 0 13 + 1)) ∧ P (-100001) (am_up h 0 13 (h 0 13 + 1)))) ∧ (0 ≤ x1 → ((9999 < x1 → ((am_ok (h 0 13 + 1)) ∧ P (-100001) (am_up h 0 13 (h 0 13 + 1)))) ∧ (x1 ≤ 9999 → ((x2 < 1 → ((am_ok (h 0 13 + 1)) ∧ P (-100001) (am_up h 0 13 (h 0 13 + 1)))) ∧ (1 ≤ x2 → ((x2 ≤ 999 → ((h 1 0 < 12 → (∃ h9, am_cd 2 97 [.inr (.inr 51), .inl 0, .inl 0, .inl 0] h none h9 ∧ (((0 ≤ h9 1 0 ∧ h9 1 0 < 12) ∧ am_ok (h9 1 0 + 1)) ∧ P (h9 1 0) (am_up (am_up (am_up (am_up h9 2 (h9 1 0) (x1 / 100)) 3 (h9 1 0) (x1 % 100)) 4 (h9 1 0) x2) 1 0 (h9 1 0 + 1))))) ∧ (12 ≤ h 1 0 → ((am_ok (h 0 13 + 1)) ∧ P (-100005) (am_up h 0 13 (h 0 13 + 1)))))) ∧ (999 < x2 → ((am_ok (h 0 13 + 1)) ∧ P (-100001) (am_up h 0 13 (h 0 13 + 1))))))))))) : ∃ a h1, am_cd 3 154 [.inr (.inr 0), .inl x1, .inl x2] h (some (.inl a)) h1 ∧ P a h1 := by
  refine am_outi (d := 2) (ls := [some (.inr (.inr 0)), some (.inl x1), some (.inl x2)]) rfl ab154 ml154 (Nat.le_of_ble_eq_true rfl) np154 rfl ?_
  refine x_iload_n (q154c0 0 rfl) rfl ?_
  refine x_if_lt (q154c0 1 rfl) (fun c1 => ?_) (fun c1 => ?_)
  · replace H := H.1 c1
    refine x_aload_n (q154c0 11 rfl) rfl ?_
    refine x_ldc (q154c0 12 rfl) ?_
    refine x_cvi (q154c0 13 rfl) rfl oc0 rfl (Nat.le_of_ble_eq_true rfl) (am_lifti (Nat.le_of_ble_eq_true rfl) (e_At_finding (r1 := h 0 13) (rfl) ?_))
    obtain ⟨s2, H⟩ := H
    refine ⟨s2, ?_⟩
    exact x_ireti (q154c0 14 rfl) zb154 H
  · replace H := H.2 c1
    refine x_iload_n (q154c0 2 rfl) rfl ?_
    refine x_sipush (q154c0 3 rfl) ?_
    refine x_icmp_gt (q154c0 4 rfl) (fun c3 => ?_) (fun c3 => ?_)
    · replace H := H.1 c3
      refine x_aload_n (q154c0 11 rfl) rfl ?_
      refine x_ldc (q154c0 12 rfl) ?_
      refine x_cvi (q154c0 13 rfl) rfl oc0 rfl (Nat.le_of_ble_eq_true rfl) (am_lifti (Nat.le_of_ble_eq_true rfl) (e_At_finding (r1 := h 0 13) (rfl) ?_))
      obtain ⟨s4, H⟩ := H
      refine ⟨s4, ?_⟩
      exact x_ireti (q154c0 14 rfl) zb154 H
    · replace H := H.2 c3
      refine x_iload_n (q154c0 5 rfl) rfl ?_
      refine x_iconst (q154c0 6 rfl) ?_
      refine x_icmp_lt (q154c0 7 rfl) (fun c5 => ?_) (fun c5 => ?_)
      · replace H := H.1 c5
        refine x_aload_n (q154c0 11 rfl) rfl ?_
        refine x_ldc (q154c0 12 rfl) ?_
        refine x_cvi (q154c0 13 rfl) rfl oc0 rfl (Nat.le_of_ble_eq_true rfl) (am_lifti (Nat.le_of_ble_eq_true rfl) (e_At_finding (r1 := h 0 13) (rfl) ?_))
        obtain ⟨s6, H⟩ := H
        refine ⟨s6, ?_⟩
        exact x_ireti (q154c0 14 rfl) zb154 H
      · replace H := H.2 c5
        refine x_iload_n (q154c0 8 rfl) rfl ?_
        refine x_sipush (q154c0 9 rfl) ?_
        refine x_icmp_le (q154c0 10 rfl) (fun c7 => ?_) (fun c7 => ?_)
        · replace H := H.1 c7
          refine x_aload_n (q154c0 15 rfl) rfl ?_
          refine x_getr (q154c0 16 rfl) fd0_0 ?_
          refine x_cvi (q154c0 17 rfl) rfl oc1 rfl (Nat.le_of_ble_eq_true rfl) (am_lifti (Nat.le_of_ble_eq_true rfl) (e_Land_size (r1 := h 1 0) (rfl) ?_))
          refine x_bipush (q154c0 18 rfl) ?_
          refine x_icmp_lt (q154c0 19 rfl) (fun c8 => ?_) (fun c8 => ?_)
          · replace H := H.1 c8
            refine x_aload_n (q154c0 24 rfl) rfl ?_
            refine x_getr (q154c0 25 rfl) fd0_10 ?_
            refine x_iconst (q154c0 26 rfl) ?_
            refine x_iconst (q154c0 27 rfl) ?_
            refine x_iconst (q154c0 28 rfl) ?_
            obtain ⟨h9, w10, H⟩ := H
            refine x_cvv (q154c0 29 rfl) rfl oc51 rfl (Nat.le_of_ble_eq_true rfl) ⟨h9, w10, ?_⟩
            refine x_aload_n (q154c0 30 rfl) rfl ?_
            refine x_getr (q154c0 31 rfl) fd0_0 ?_
            refine x_iload_n (q154c0 32 rfl) rfl ?_
            refine x_iload_n (q154c0 33 rfl) rfl ?_
            refine x_cvi (q154c0 34 rfl) rfl oc1 rfl (Nat.le_of_ble_eq_true rfl) (am_lifti (Nat.le_of_ble_eq_true rfl) (e_Land_settle (r1 := h9 1 0) (rfl) ?_))
            obtain ⟨⟨s11, s12⟩, H⟩ := H
            refine ⟨⟨c1, s11, s12⟩, ?_⟩
            exact x_ireti (q154c0 35 rfl) zb154 H
          · replace H := H.2 c8
            refine x_aload_n (q154c0 20 rfl) rfl ?_
            refine x_ldc (q154c0 21 rfl) ?_
            refine x_cvi (q154c0 22 rfl) rfl oc0 rfl (Nat.le_of_ble_eq_true rfl) (am_lifti (Nat.le_of_ble_eq_true rfl) (e_At_finding (r1 := h 0 13) (rfl) ?_))
            obtain ⟨s13, H⟩ := H
            refine ⟨s13, ?_⟩
            exact x_ireti (q154c0 23 rfl) zb154 H
        · replace H := H.2 c7
          refine x_aload_n (q154c0 11 rfl) rfl ?_
          refine x_ldc (q154c0 12 rfl) ?_
          refine x_cvi (q154c0 13 rfl) rfl oc0 rfl (Nat.le_of_ble_eq_true rfl) (am_lifti (Nat.le_of_ble_eq_true rfl) (e_At_finding (r1 := h 0 13) (rfl) ?_))
          obtain ⟨s14, H⟩ := H
          refine ⟨s14, ?_⟩
          exact x_ireti (q154c0 14 rfl) zb154 H
theorem e_At_road {h : am_H} {x1 : Int} {x2 : Int} {x3 : Int} {P : Int → am_H → Prop} (H : ((0 ≤ x1 ∧ x1 < h 1 0) → (((0 ≤ x2 ∧ x2 < h 1 0) → ((x3 < 0 → ((am_ok (h 0 13 + 1)) ∧ P (-100001) (am_up h 0 13 (h 0 13 + 1)))) ∧ (0 ≤ x3 → ((x3 ≤ 99 → ((x1 ≠ x2 → ((am_ok (x1 * 12) ∧ am_ok (x1 * 12 + x2)) ∧ ((0 ≤ x1 * 12 + x2 ∧ x1 * 12 + x2 < 144) ∧ (∃ h10, am_cd 2 97 [.inr (.inr 51), .inl 1, .inl (x1 * 12 + x2), .inl (h 5 (12 * x1 + x2))] h none h10 ∧ ((am_ok (x2 * 12) ∧ am_ok (x2 * 12 + x1)) ∧ ((0 ≤ x2 * 12 + x1 ∧ x2 * 12 + x1 < 144) ∧ P (h 5 (12 * x1 + x2)) (am_up (am_up h10 5 (12 * x1 + x2) x3) 5 (12 * x2 + x1) x3))))))) ∧ (x1 = x2 → ((am_ok (h 0 13 + 1)) ∧ P (-100003) (am_up h 0 13 (h 0 13 + 1)))))) ∧ (99 < x3 → ((am_ok (h 0 13 + 1)) ∧ P (-100001) (am_up h 0 13 (h 0 13 + 1)))))))) ∧ ((¬(0 ≤ x2 ∧ x2 < h 1 0)) → ((am_ok (h 0 13 + 1)) ∧ P (-100001) (am_up h 0 13 (h 0 13 + 1)))))) ∧ ((¬(0 ≤ x1 ∧ x1 < h 1 0)) → ((am_ok (h 0 13 + 1)) ∧ P (-100001) (am_up h 0 13 (h 0 13 + 1))))) : ∃ a h1, am_cd 3 155 [.inr (.inr 0), .inl x1, .inl x2, .inl x3] h (some (.inl a)) h1 ∧ P a h1 := by
  refine am_outi (d := 2) (ls := [some (.inr (.inr 0)), some (.inl x1), some (.inl x2), some (.inl x3), none]) rfl ab155 ml155 (Nat.le_of_ble_eq_true rfl) np155 rfl ?_
  refine x_aload_n (q155c0 0 rfl) rfl ?_
  refine x_getr (q155c0 1 rfl) fd0_0 ?_
  refine x_iload_n (q155c0 2 rfl) rfl ?_
  refine x_cvi (q155c0 3 rfl) rfl oc1 rfl (Nat.le_of_ble_eq_true rfl) (am_lifti (Nat.le_of_ble_eq_true rfl) (e_Land_has (r1 := h 1 0) (rfl) ?_))
  refine ⟨fun c1 => ?_, fun c1 => ?_⟩
  · replace H := H.1 c1
    refine x_if_eq_f (q155c0 4 rfl) (by decide) ?_
    refine x_aload_n (q155c0 5 rfl) rfl ?_
    refine x_getr (q155c0 6 rfl) fd0_0 ?_
    refine x_iload_n (q155c0 7 rfl) rfl ?_
    refine x_cvi (q155c0 8 rfl) rfl oc1 rfl (Nat.le_of_ble_eq_true rfl) (am_lifti (Nat.le_of_ble_eq_true rfl) (e_Land_has (r1 := h 1 0) (rfl) ?_))
    refine ⟨fun c2 => ?_, fun c2 => ?_⟩
    · replace H := H.1 c2
      refine x_if_eq_f (q155c0 9 rfl) (by decide) ?_
      refine x_iload_n (q155c0 10 rfl) rfl ?_
      refine x_if_lt (q155c0 11 rfl) (fun c3 => ?_) (fun c3 => ?_)
      · replace H := H.1 c3
        refine x_aload_n (q155c0 15 rfl) rfl ?_
        refine x_ldc (q155c0 16 rfl) ?_
        refine x_cvi (q155c0 17 rfl) rfl oc0 rfl (Nat.le_of_ble_eq_true rfl) (am_lifti (Nat.le_of_ble_eq_true rfl) (e_At_finding (r1 := h 0 13) (rfl) ?_))
        obtain ⟨s4, H⟩ := H
        refine ⟨s4, ?_⟩
        exact x_ireti (q155c0 18 rfl) zb155 H
      · replace H := H.2 c3
        refine x_iload_n (q155c0 12 rfl) rfl ?_
        refine x_bipush (q155c0 13 rfl) ?_
        refine x_icmp_le (q155c0 14 rfl) (fun c5 => ?_) (fun c5 => ?_)
        · replace H := H.1 c5
          refine x_iload_n (q155c0 19 rfl) rfl ?_
          refine x_iload_n (q155c0 20 rfl) rfl ?_
          refine x_icmp_ne (q155c0 21 rfl) (fun c6 => ?_) (fun c6 => ?_)
          · replace H := H.1 c6
            refine x_aload_n (q155c0 26 rfl) rfl ?_
            refine x_getr (q155c0 27 rfl) fd0_0 ?_
            refine x_iload_n (q155c0 28 rfl) rfl ?_
            refine x_iload_n (q155c0 29 rfl) rfl ?_
            refine x_cvi (q155c0 30 rfl) rfl oc1 rfl (Nat.le_of_ble_eq_true rfl) (am_lifti (Nat.le_of_ble_eq_true rfl) (e_Land_lengthOf (r1 := h 5 (12 * x1 + x2)) (rfl) ?_))
            obtain ⟨⟨s7, s8⟩, H⟩ := H
            refine ⟨⟨s7, s8⟩, ?_⟩
            obtain ⟨s9, H⟩ := H
            refine ⟨s9, ?_⟩
            refine x_istore (q155c0 31 rfl) ⟨Nat.le_of_ble_eq_true rfl, trivial⟩ ?_
            refine x_aload_n (q155c0 32 rfl) rfl ?_
            refine x_getr (q155c0 33 rfl) fd0_10 ?_
            refine x_iconst (q155c0 34 rfl) ?_
            refine x_aload_n (q155c0 35 rfl) rfl ?_
            refine x_getr (q155c0 36 rfl) fd0_0 ?_
            refine x_iload_n (q155c0 37 rfl) rfl ?_
            refine x_iload_n (q155c0 38 rfl) rfl ?_
            refine x_cvi (q155c0 39 rfl) rfl oc1 rfl (Nat.le_of_ble_eq_true rfl) (am_lifti (Nat.le_of_ble_eq_true rfl) (e_Land_pair   ?_))
            refine ⟨⟨s7, s8⟩, ?_⟩
            refine x_iload (q155c0 40 rfl) rfl ?_
            obtain ⟨h10, w11, H⟩ := H
            refine x_cvv (q155c0 41 rfl) rfl oc51 rfl (Nat.le_of_ble_eq_true rfl) ⟨h10, w11, ?_⟩
            refine x_aload_n (q155c0 42 rfl) rfl ?_
            refine x_getr (q155c0 43 rfl) fd0_0 ?_
            refine x_iload_n (q155c0 44 rfl) rfl ?_
            refine x_iload_n (q155c0 45 rfl) rfl ?_
            refine x_iload_n (q155c0 46 rfl) rfl ?_
            refine x_cvv (q155c0 47 rfl) rfl oc1 rfl (Nat.le_of_ble_eq_true rfl) (am_liftv (Nat.le_of_ble_eq_true rfl) (e_Land_lay   ?_))
            refine ⟨⟨s7, s8⟩, ?_⟩
            refine ⟨s9, ?_⟩
            obtain ⟨⟨s12, s13⟩, H⟩ := H
            refine ⟨⟨s12, s13⟩, ?_⟩
            obtain ⟨s14, H⟩ := H
            refine ⟨s14, ?_⟩
            refine x_iload (q155c0 48 rfl) rfl ?_
            exact x_ireti (q155c0 49 rfl) zb155 H
          · replace H := H.2 c6
            refine x_aload_n (q155c0 22 rfl) rfl ?_
            refine x_ldc (q155c0 23 rfl) ?_
            refine x_cvi (q155c0 24 rfl) rfl oc0 rfl (Nat.le_of_ble_eq_true rfl) (am_lifti (Nat.le_of_ble_eq_true rfl) (e_At_finding (r1 := h 0 13) (rfl) ?_))
            obtain ⟨s15, H⟩ := H
            refine ⟨s15, ?_⟩
            exact x_ireti (q155c0 25 rfl) zb155 H
        · replace H := H.2 c5
          refine x_aload_n (q155c0 15 rfl) rfl ?_
          refine x_ldc (q155c0 16 rfl) ?_
          refine x_cvi (q155c0 17 rfl) rfl oc0 rfl (Nat.le_of_ble_eq_true rfl) (am_lifti (Nat.le_of_ble_eq_true rfl) (e_At_finding (r1 := h 0 13) (rfl) ?_))
          obtain ⟨s16, H⟩ := H
          refine ⟨s16, ?_⟩
          exact x_ireti (q155c0 18 rfl) zb155 H
    · replace H := H.2 c2
      refine x_if_eq_t (q155c0 9 rfl) (by decide) ?_
      refine x_aload_n (q155c0 15 rfl) rfl ?_
      refine x_ldc (q155c0 16 rfl) ?_
      refine x_cvi (q155c0 17 rfl) rfl oc0 rfl (Nat.le_of_ble_eq_true rfl) (am_lifti (Nat.le_of_ble_eq_true rfl) (e_At_finding (r1 := h 0 13) (rfl) ?_))
      obtain ⟨s17, H⟩ := H
      refine ⟨s17, ?_⟩
      exact x_ireti (q155c0 18 rfl) zb155 H
  · replace H := H.2 c1
    refine x_if_eq_t (q155c0 4 rfl) (by decide) ?_
    refine x_aload_n (q155c0 15 rfl) rfl ?_
    refine x_ldc (q155c0 16 rfl) ?_
    refine x_cvi (q155c0 17 rfl) rfl oc0 rfl (Nat.le_of_ble_eq_true rfl) (am_lifti (Nat.le_of_ble_eq_true rfl) (e_At_finding (r1 := h 0 13) (rfl) ?_))
    obtain ⟨s18, H⟩ := H
    refine ⟨s18, ?_⟩
    exact x_ireti (q155c0 18 rfl) zb155 H
theorem e_At_day {h : am_H} {x1 : Int} {P : Int → am_H → Prop} (H : ((0 ≤ x1 ∧ x1 ≤ 999) → ((h 0 12 ≤ x1 → (∃ h3, am_cd 2 97 [.inr (.inr 51), .inl 6, .inl 0, .inl (h 0 12)] h none h3 ∧ P (h 0 12) (am_up h3 0 12 x1))) ∧ (x1 < h 0 12 → ((am_ok (h 0 13 + 1)) ∧ P (-100001) (am_up h 0 13 (h 0 13 + 1)))))) ∧ ((¬(0 ≤ x1 ∧ x1 ≤ 999)) → ((am_ok (h 0 13 + 1)) ∧ P (-100001) (am_up h 0 13 (h 0 13 + 1))))) : ∃ a h1, am_cd 3 156 [.inr (.inr 0), .inl x1] h (some (.inl a)) h1 ∧ P a h1 := by
  refine am_outi (d := 2) (ls := [some (.inr (.inr 0)), some (.inl x1), none]) rfl ab156 ml156 (Nat.le_of_ble_eq_true rfl) np156 rfl ?_
  refine x_iload_n (q156c0 0 rfl) rfl ?_
  refine x_csi (q156c0 1 rfl) rfl rfl rfl (Nat.le_of_ble_eq_true rfl) (am_lifti (Nat.le_of_ble_eq_true rfl) (e_At_isDay   ?_))
  refine ⟨fun c1 => ?_, fun c1 => ?_⟩
  · replace H := H.1 c1
    refine x_if_eq_f (q156c0 2 rfl) (by decide) ?_
    refine x_iload_n (q156c0 3 rfl) rfl ?_
    refine x_aload_n (q156c0 4 rfl) rfl ?_
    refine x_getf (q156c0 5 rfl) fd0_12 (rfl) ?_
    refine x_icmp_ge (q156c0 6 rfl) (fun c2 => ?_) (fun c2 => ?_)
    · replace H := H.1 c2
      refine x_aload_n (q156c0 11 rfl) rfl ?_
      refine x_getf (q156c0 12 rfl) fd0_12 (rfl) ?_
      refine x_istore_n (q156c0 13 rfl) ⟨Nat.le_of_ble_eq_true rfl, trivial⟩ ?_
      refine x_aload_n (q156c0 14 rfl) rfl ?_
      refine x_getr (q156c0 15 rfl) fd0_10 ?_
      refine x_bipush (q156c0 16 rfl) ?_
      refine x_iconst (q156c0 17 rfl) ?_
      refine x_iload_n (q156c0 18 rfl) rfl ?_
      obtain ⟨h3, w4, H⟩ := H
      refine x_cvv (q156c0 19 rfl) rfl oc51 rfl (Nat.le_of_ble_eq_true rfl) ⟨h3, w4, ?_⟩
      refine x_aload_n (q156c0 20 rfl) rfl ?_
      refine x_iload_n (q156c0 21 rfl) rfl ?_
      refine x_putf (q156c0 22 rfl) fd0_12 ?_
      refine x_iload_n (q156c0 23 rfl) rfl ?_
      exact x_ireti (q156c0 24 rfl) zb156 H
    · replace H := H.2 c2
      refine x_aload_n (q156c0 7 rfl) rfl ?_
      refine x_ldc (q156c0 8 rfl) ?_
      refine x_cvi (q156c0 9 rfl) rfl oc0 rfl (Nat.le_of_ble_eq_true rfl) (am_lifti (Nat.le_of_ble_eq_true rfl) (e_At_finding (r1 := h 0 13) (rfl) ?_))
      obtain ⟨s5, H⟩ := H
      refine ⟨s5, ?_⟩
      exact x_ireti (q156c0 10 rfl) zb156 H
  · replace H := H.2 c1
    refine x_if_eq_t (q156c0 2 rfl) (by decide) ?_
    refine x_aload_n (q156c0 7 rfl) rfl ?_
    refine x_ldc (q156c0 8 rfl) ?_
    refine x_cvi (q156c0 9 rfl) rfl oc0 rfl (Nat.le_of_ble_eq_true rfl) (am_lifti (Nat.le_of_ble_eq_true rfl) (e_At_finding (r1 := h 0 13) (rfl) ?_))
    obtain ⟨s6, H⟩ := H
    refine ⟨s6, ?_⟩
    exact x_ireti (q156c0 10 rfl) zb156 H
theorem e_At_asked {h : am_H} {x1 : Int} {x2 : Int} {x3 : Int} {P : Int → am_H → Prop} (H : ((0 ≤ x1 ∧ x1 < h 1 0) → (((0 ≤ x2 ∧ x2 ≤ 3) → ((x3 < 1 → ((am_ok (h 0 13 + 1)) ∧ P (-100001) (am_up h 0 13 (h 0 13 + 1)))) ∧ (1 ≤ x3 → ((x3 ≤ 9 → ((h 7 0 < 20 → (∃ h7, am_cd 2 97 [.inr (.inr 51), .inl 2, .inl 0, .inl 0] h none h7 ∧ (((0 ≤ h7 7 0 ∧ h7 7 0 < 20) ∧ am_ok (h7 7 0 + 1)) ∧ P (h7 7 0) (am_up (am_up (am_up (am_up h7 8 (h7 7 0) x1) 9 (h7 7 0) x2) 10 (h7 7 0) x3) 7 0 (h7 7 0 + 1))))) ∧ (20 ≤ h 7 0 → ((am_ok (h 0 13 + 1)) ∧ P (-100005) (am_up h 0 13 (h 0 13 + 1)))))) ∧ (9 < x3 → ((am_ok (h 0 13 + 1)) ∧ P (-100001) (am_up h 0 13 (h 0 13 + 1)))))))) ∧ ((¬(0 ≤ x2 ∧ x2 ≤ 3)) → ((am_ok (h 0 13 + 1)) ∧ P (-100001) (am_up h 0 13 (h 0 13 + 1)))))) ∧ ((¬(0 ≤ x1 ∧ x1 < h 1 0)) → ((am_ok (h 0 13 + 1)) ∧ P (-100001) (am_up h 0 13 (h 0 13 + 1))))) : ∃ a h1, am_cd 3 157 [.inr (.inr 0), .inl x1, .inl x2, .inl x3] h (some (.inl a)) h1 ∧ P a h1 := by
  refine am_outi (d := 2) (ls := [some (.inr (.inr 0)), some (.inl x1), some (.inl x2), some (.inl x3)]) rfl ab157 ml157 (Nat.le_of_ble_eq_true rfl) np157 rfl ?_
  refine x_aload_n (q157c0 0 rfl) rfl ?_
  refine x_getr (q157c0 1 rfl) fd0_0 ?_
  refine x_iload_n (q157c0 2 rfl) rfl ?_
  refine x_cvi (q157c0 3 rfl) rfl oc1 rfl (Nat.le_of_ble_eq_true rfl) (am_lifti (Nat.le_of_ble_eq_true rfl) (e_Land_has (r1 := h 1 0) (rfl) ?_))
  refine ⟨fun c1 => ?_, fun c1 => ?_⟩
  · replace H := H.1 c1
    refine x_if_eq_f (q157c0 4 rfl) (by decide) ?_
    refine x_iload_n (q157c0 5 rfl) rfl ?_
    refine x_csi (q157c0 6 rfl) rfl rfl rfl (Nat.le_of_ble_eq_true rfl) (am_lifti (Nat.le_of_ble_eq_true rfl) (e_Asked_isKind   ?_))
    refine ⟨fun c2 => ?_, fun c2 => ?_⟩
    · replace H := H.1 c2
      refine x_if_eq_f (q157c0 7 rfl) (by decide) ?_
      refine x_iload_n (q157c0 8 rfl) rfl ?_
      refine x_iconst (q157c0 9 rfl) ?_
      refine x_icmp_lt (q157c0 10 rfl) (fun c3 => ?_) (fun c3 => ?_)
      · replace H := H.1 c3
        refine x_aload_n (q157c0 14 rfl) rfl ?_
        refine x_ldc (q157c0 15 rfl) ?_
        refine x_cvi (q157c0 16 rfl) rfl oc0 rfl (Nat.le_of_ble_eq_true rfl) (am_lifti (Nat.le_of_ble_eq_true rfl) (e_At_finding (r1 := h 0 13) (rfl) ?_))
        obtain ⟨s4, H⟩ := H
        refine ⟨s4, ?_⟩
        exact x_ireti (q157c0 17 rfl) zb157 H
      · replace H := H.2 c3
        refine x_iload_n (q157c0 11 rfl) rfl ?_
        refine x_bipush (q157c0 12 rfl) ?_
        refine x_icmp_le (q157c0 13 rfl) (fun c5 => ?_) (fun c5 => ?_)
        · replace H := H.1 c5
          refine x_aload_n (q157c0 18 rfl) rfl ?_
          refine x_getr (q157c0 19 rfl) fd0_1 ?_
          refine x_cvi (q157c0 20 rfl) rfl oc7 rfl (Nat.le_of_ble_eq_true rfl) (am_lifti (Nat.le_of_ble_eq_true rfl) (e_Asked_size (r1 := h 7 0) (rfl) ?_))
          refine x_bipush (q157c0 21 rfl) ?_
          refine x_icmp_lt (q157c0 22 rfl) (fun c6 => ?_) (fun c6 => ?_)
          · replace H := H.1 c6
            refine x_aload_n (q157c0 27 rfl) rfl ?_
            refine x_getr (q157c0 28 rfl) fd0_10 ?_
            refine x_iconst (q157c0 29 rfl) ?_
            refine x_iconst (q157c0 30 rfl) ?_
            refine x_iconst (q157c0 31 rfl) ?_
            obtain ⟨h7, w8, H⟩ := H
            refine x_cvv (q157c0 32 rfl) rfl oc51 rfl (Nat.le_of_ble_eq_true rfl) ⟨h7, w8, ?_⟩
            refine x_aload_n (q157c0 33 rfl) rfl ?_
            refine x_getr (q157c0 34 rfl) fd0_1 ?_
            refine x_iload_n (q157c0 35 rfl) rfl ?_
            refine x_iload_n (q157c0 36 rfl) rfl ?_
            refine x_iload_n (q157c0 37 rfl) rfl ?_
            refine x_cvi (q157c0 38 rfl) rfl oc7 rfl (Nat.le_of_ble_eq_true rfl) (am_lifti (Nat.le_of_ble_eq_true rfl) (e_Asked_meet (r1 := h7 7 0) (rfl) ?_))
            obtain ⟨⟨s9, s10⟩, H⟩ := H
            refine ⟨⟨s9, s10⟩, ?_⟩
            exact x_ireti (q157c0 39 rfl) zb157 H
          · replace H := H.2 c6
            refine x_aload_n (q157c0 23 rfl) rfl ?_
            refine x_ldc (q157c0 24 rfl) ?_
            refine x_cvi (q157c0 25 rfl) rfl oc0 rfl (Nat.le_of_ble_eq_true rfl) (am_lifti (Nat.le_of_ble_eq_true rfl) (e_At_finding (r1 := h 0 13) (rfl) ?_))
            obtain ⟨s11, H⟩ := H
            refine ⟨s11, ?_⟩
            exact x_ireti (q157c0 26 rfl) zb157 H
        · replace H := H.2 c5
          refine x_aload_n (q157c0 14 rfl) rfl ?_
          refine x_ldc (q157c0 15 rfl) ?_
          refine x_cvi (q157c0 16 rfl) rfl oc0 rfl (Nat.le_of_ble_eq_true rfl) (am_lifti (Nat.le_of_ble_eq_true rfl) (e_At_finding (r1 := h 0 13) (rfl) ?_))
          obtain ⟨s12, H⟩ := H
          refine ⟨s12, ?_⟩
          exact x_ireti (q157c0 17 rfl) zb157 H
    · replace H := H.2 c2
      refine x_if_eq_t (q157c0 7 rfl) (by decide) ?_
      refine x_aload_n (q157c0 14 rfl) rfl ?_
      refine x_ldc (q157c0 15 rfl) ?_
      refine x_cvi (q157c0 16 rfl) rfl oc0 rfl (Nat.le_of_ble_eq_true rfl) (am_lifti (Nat.le_of_ble_eq_true rfl) (e_At_finding (r1 := h 0 13) (rfl) ?_))
      obtain ⟨s13, H⟩ := H
      refine ⟨s13, ?_⟩
      exact x_ireti (q157c0 17 rfl) zb157 H
  · replace H := H.2 c1
    refine x_if_eq_t (q157c0 4 rfl) (by decide) ?_
    refine x_aload_n (q157c0 14 rfl) rfl ?_
    refine x_ldc (q157c0 15 rfl) ?_
    refine x_cvi (q157c0 16 rfl) rfl oc0 rfl (Nat.le_of_ble_eq_true rfl) (am_lifti (Nat.le_of_ble_eq_true rfl) (e_At_finding (r1 := h 0 13) (rfl) ?_))
    obtain ⟨s14, H⟩ := H
    refine ⟨s14, ?_⟩
    exact x_ireti (q157c0 17 rfl) zb157 H
theorem e_At_answer {h : am_H} {x1 : Int} {x2 : Int} {x3 : Int} {P : Int → am_H → Prop} (H : ((0 ≤ x1 ∧ x1 < h 7 0) → (((0 ≤ x2 ∧ x2 < 6) → (((0 ≤ x3 ∧ x3 < h 11 0) → ((h 17 1 < 60 → (∃ h5, am_cd 2 97 [.inr (.inr 51), .inl 4, .inl 0, .inl 0] h none h5 ∧ (((0 ≤ h5 17 1 ∧ h5 17 1 < 60) ∧ am_ok (h5 17 1 + 1)) ∧ P (h5 17 1) (am_up (am_up (am_up (am_up (am_up (am_up h5 18 (h5 17 1) x1) 19 (h5 17 1) x2) 20 (h5 17 1) x3) 21 (h5 17 1) (h5 0 12)) 22 (h5 17 1) (-1)) 17 1 (h5 17 1 + 1))))) ∧ (60 ≤ h 17 1 → ((am_ok (h 0 13 + 1)) ∧ P (-100005) (am_up h 0 13 (h 0 13 + 1)))))) ∧ ((¬(0 ≤ x3 ∧ x3 < h 11 0)) → ((am_ok (h 0 13 + 1)) ∧ P (-100001) (am_up h 0 13 (h 0 13 + 1)))))) ∧ ((¬(0 ≤ x2 ∧ x2 < 6)) → ((am_ok (h 0 13 + 1)) ∧ P (-100001) (am_up h 0 13 (h 0 13 + 1)))))) ∧ ((¬(0 ≤ x1 ∧ x1 < h 7 0)) → ((am_ok (h 0 13 + 1)) ∧ P (-100001) (am_up h 0 13 (h 0 13 + 1))))) : ∃ a h1, am_cd 3 158 [.inr (.inr 0), .inl x1, .inl x2, .inl x3] h (some (.inl a)) h1 ∧ P a h1 := by
  refine am_outi (d := 2) (ls := [some (.inr (.inr 0)), some (.inl x1), some (.inl x2), some (.inl x3)]) rfl ab158 ml158 (Nat.le_of_ble_eq_true rfl) np158 rfl ?_
  refine x_aload_n (q158c0 0 rfl) rfl ?_
  refine x_getr (q158c0 1 rfl) fd0_1 ?_
  refine x_iload_n (q158c0 2 rfl) rfl ?_
  refine x_cvi (q158c0 3 rfl) rfl oc7 rfl (Nat.le_of_ble_eq_true rfl) (am_lifti (Nat.le_of_ble_eq_true rfl) (e_Asked_has (r1 := h 7 0) (rfl) ?_))
  refine ⟨fun c1 => ?_, fun c1 => ?_⟩
  · replace H := H.1 c1
    refine x_if_eq_f (q158c0 4 rfl) (by decide) ?_
    refine x_iload_n (q158c0 5 rfl) rfl ?_
    refine x_csi (q158c0 6 rfl) rfl rfl rfl (Nat.le_of_ble_eq_true rfl) (am_lifti (Nat.le_of_ble_eq_true rfl) (e_At_isThing   ?_))
    refine ⟨fun c2 => ?_, fun c2 => ?_⟩
    · replace H := H.1 c2
      refine x_if_eq_f (q158c0 7 rfl) (by decide) ?_
      refine x_aload_n (q158c0 8 rfl) rfl ?_
      refine x_getr (q158c0 9 rfl) fd0_2 ?_
      refine x_iload_n (q158c0 10 rfl) rfl ?_
      refine x_cvi (q158c0 11 rfl) rfl oc11 rfl (Nat.le_of_ble_eq_true rfl) (am_lifti (Nat.le_of_ble_eq_true rfl) (e_Forms_has (r1 := h 11 0) (rfl) ?_))
      refine ⟨fun c3 => ?_, fun c3 => ?_⟩
      · replace H := H.1 c3
        refine x_if_ne_t (q158c0 12 rfl) (by decide) ?_
        refine x_aload_n (q158c0 17 rfl) rfl ?_
        refine x_getr (q158c0 18 rfl) fd0_3 ?_
        refine x_cvi (q158c0 19 rfl) rfl oc17 rfl (Nat.le_of_ble_eq_true rfl) (am_lifti (Nat.le_of_ble_eq_true rfl) (e_Answers_size (r1 := h 17 1) (rfl) ?_))
        refine x_bipush (q158c0 20 rfl) ?_
        refine x_icmp_lt (q158c0 21 rfl) (fun c4 => ?_) (fun c4 => ?_)
        · replace H := H.1 c4
          refine x_aload_n (q158c0 26 rfl) rfl ?_
          refine x_getr (q158c0 27 rfl) fd0_10 ?_
          refine x_iconst (q158c0 28 rfl) ?_
          refine x_iconst (q158c0 29 rfl) ?_
          refine x_iconst (q158c0 30 rfl) ?_
          obtain ⟨h5, w6, H⟩ := H
          refine x_cvv (q158c0 31 rfl) rfl oc51 rfl (Nat.le_of_ble_eq_true rfl) ⟨h5, w6, ?_⟩
          refine x_aload_n (q158c0 32 rfl) rfl ?_
          refine x_getr (q158c0 33 rfl) fd0_3 ?_
          refine x_iload_n (q158c0 34 rfl) rfl ?_
          refine x_iload_n (q158c0 35 rfl) rfl ?_
          refine x_iload_n (q158c0 36 rfl) rfl ?_
          refine x_aload_n (q158c0 37 rfl) rfl ?_
          refine x_getf (q158c0 38 rfl) fd0_12 (rfl) ?_
          refine x_cvi (q158c0 39 rfl) rfl oc17 rfl (Nat.le_of_ble_eq_true rfl) (am_lifti (Nat.le_of_ble_eq_true rfl) (e_Answers_write (r1 := h5 17 1) (rfl) ?_))
          obtain ⟨⟨s7, s8⟩, H⟩ := H
          refine ⟨⟨s7, s8⟩, ?_⟩
          exact x_ireti (q158c0 40 rfl) zb158 H
        · replace H := H.2 c4
          refine x_aload_n (q158c0 22 rfl) rfl ?_
          refine x_ldc (q158c0 23 rfl) ?_
          refine x_cvi (q158c0 24 rfl) rfl oc0 rfl (Nat.le_of_ble_eq_true rfl) (am_lifti (Nat.le_of_ble_eq_true rfl) (e_At_finding (r1 := h 0 13) (rfl) ?_))
          obtain ⟨s9, H⟩ := H
          refine ⟨s9, ?_⟩
          exact x_ireti (q158c0 25 rfl) zb158 H
      · replace H := H.2 c3
        refine x_if_ne_f (q158c0 12 rfl) (by decide) ?_
        refine x_aload_n (q158c0 13 rfl) rfl ?_
        refine x_ldc (q158c0 14 rfl) ?_
        refine x_cvi (q158c0 15 rfl) rfl oc0 rfl (Nat.le_of_ble_eq_true rfl) (am_lifti (Nat.le_of_ble_eq_true rfl) (e_At_finding (r1 := h 0 13) (rfl) ?_))
        obtain ⟨s10, H⟩ := H
        refine ⟨s10, ?_⟩
        exact x_ireti (q158c0 16 rfl) zb158 H
    · replace H := H.2 c2
      refine x_if_eq_t (q158c0 7 rfl) (by decide) ?_
      refine x_aload_n (q158c0 13 rfl) rfl ?_
      refine x_ldc (q158c0 14 rfl) ?_
      refine x_cvi (q158c0 15 rfl) rfl oc0 rfl (Nat.le_of_ble_eq_true rfl) (am_lifti (Nat.le_of_ble_eq_true rfl) (e_At_finding (r1 := h 0 13) (rfl) ?_))
      obtain ⟨s11, H⟩ := H
      refine ⟨s11, ?_⟩
      exact x_ireti (q158c0 16 rfl) zb158 H
  · replace H := H.2 c1
    refine x_if_eq_t (q158c0 4 rfl) (by decide) ?_
    refine x_aload_n (q158c0 13 rfl) rfl ?_
    refine x_ldc (q158c0 14 rfl) ?_
    refine x_cvi (q158c0 15 rfl) rfl oc0 rfl (Nat.le_of_ble_eq_true rfl) (am_lifti (Nat.le_of_ble_eq_true rfl) (e_At_finding (r1 := h 0 13) (rfl) ?_))
    obtain ⟨s12, H⟩ := H
    refine ⟨s12, ?_⟩
    exact x_ireti (q158c0 16 rfl) zb158 H
theorem e_At_take {h : am_H} {x1 : Int} {P : Int → am_H → Prop} (H : ((0 ≤ x1 ∧ x1 < h 17 1) → ((0 ≤ x1 ∧ x1 < 60) ∧ ((h 22 x1 ≠ (-1) → ((am_ok (h 0 13 + 1)) ∧ P (-100007) (am_up h 0 13 (h 0 13 + 1)))) ∧ (h 22 x1 = (-1) → (∃ h5, am_cd 2 97 [.inr (.inr 51), .inl 5, .inl x1, .inl 0] h none h5 ∧ P 1 (am_up h5 22 x1 (h5 0 12))))))) ∧ ((¬(0 ≤ x1 ∧ x1 < h 17 1)) → ((am_ok (h 0 13 + 1)) ∧ P (-100001) (am_up h 0 13 (h 0 13 + 1))))) : ∃ a h1, am_cd 3 159 [.inr (.inr 0), .inl x1] h (some (.inl a)) h1 ∧ P a h1 := by
  refine am_outi (d := 2) (ls := [some (.inr (.inr 0)), some (.inl x1)]) rfl ab159 ml159 (Nat.le_of_ble_eq_true rfl) np159 rfl ?_
  refine x_aload_n (q159c0 0 rfl) rfl ?_
  refine x_getr (q159c0 1 rfl) fd0_3 ?_
  refine x_iload_n (q159c0 2 rfl) rfl ?_
  refine x_cvi (q159c0 3 rfl) rfl oc17 rfl (Nat.le_of_ble_eq_true rfl) (am_lifti (Nat.le_of_ble_eq_true rfl) (e_Answers_has (r1 := h 17 1) (rfl) ?_))
  refine ⟨fun c1 => ?_, fun c1 => ?_⟩
  · replace H := H.1 c1
    refine x_if_ne_t (q159c0 4 rfl) (by decide) ?_
    refine x_aload_n (q159c0 9 rfl) rfl ?_
    refine x_getr (q159c0 10 rfl) fd0_3 ?_
    refine x_iload_n (q159c0 11 rfl) rfl ?_
    refine x_cvi (q159c0 12 rfl) rfl oc17 rfl (Nat.le_of_ble_eq_true rfl) (am_lifti (Nat.le_of_ble_eq_true rfl) (e_Answers_isTaken (r1 := h 22 x1) (rfl) ?_))
    obtain ⟨s2, H⟩ := H
    refine ⟨s2, ?_⟩
    refine ⟨fun c3 => ?_, fun c3 => ?_⟩
    · replace H := H.1 c3
      refine x_if_eq_f (q159c0 13 rfl) (by decide) ?_
      refine x_aload_n (q159c0 14 rfl) rfl ?_
      refine x_ldc (q159c0 15 rfl) ?_
      refine x_cvi (q159c0 16 rfl) rfl oc0 rfl (Nat.le_of_ble_eq_true rfl) (am_lifti (Nat.le_of_ble_eq_true rfl) (e_At_finding (r1 := h 0 13) (rfl) ?_))
      obtain ⟨s4, H⟩ := H
      refine ⟨s4, ?_⟩
      exact x_ireti (q159c0 17 rfl) zb159 H
    · replace H := H.2 c3
      refine x_if_eq_t (q159c0 13 rfl) (by decide) ?_
      refine x_aload_n (q159c0 18 rfl) rfl ?_
      refine x_getr (q159c0 19 rfl) fd0_10 ?_
      refine x_iconst (q159c0 20 rfl) ?_
      refine x_iload_n (q159c0 21 rfl) rfl ?_
      refine x_iconst (q159c0 22 rfl) ?_
      obtain ⟨h5, w6, H⟩ := H
      refine x_cvv (q159c0 23 rfl) rfl oc51 rfl (Nat.le_of_ble_eq_true rfl) ⟨h5, w6, ?_⟩
      refine x_aload_n (q159c0 24 rfl) rfl ?_
      refine x_getr (q159c0 25 rfl) fd0_3 ?_
      refine x_iload_n (q159c0 26 rfl) rfl ?_
      refine x_aload_n (q159c0 27 rfl) rfl ?_
      refine x_getf (q159c0 28 rfl) fd0_12 (rfl) ?_
      refine x_cvv (q159c0 29 rfl) rfl oc17 rfl (Nat.le_of_ble_eq_true rfl) (am_liftv (Nat.le_of_ble_eq_true rfl) (e_Answers_strike   ?_))
      refine ⟨s2, ?_⟩
      refine x_iconst (q159c0 30 rfl) ?_
      exact x_ireti (q159c0 31 rfl) zb159 H
  · replace H := H.2 c1
    refine x_if_ne_f (q159c0 4 rfl) (by decide) ?_
    refine x_aload_n (q159c0 5 rfl) rfl ?_
    refine x_ldc (q159c0 6 rfl) ?_
    refine x_cvi (q159c0 7 rfl) rfl oc0 rfl (Nat.le_of_ble_eq_true rfl) (am_lifti (Nat.le_of_ble_eq_true rfl) (e_At_finding (r1 := h 0 13) (rfl) ?_))
    obtain ⟨s7, H⟩ := H
    refine ⟨s7, ?_⟩
    exact x_ireti (q159c0 8 rfl) zb159 H
theorem e_At_undo {h : am_H}  {P : Int → am_H → Prop} (H : (h 51 0 ≠ 0 → ((am_ok (h 51 0 - 1) ∧ (0 ≤ h 51 0 - 1 ∧ h 51 0 - 1 < 6)) ∧ ((h 52 ((-1) + h 51 0) = 0 → ((am_ok (h 1 0 - 1)) ∧ P (h 51 0 - 1) (am_up (am_up h 1 0 (h 1 0 - 1)) 51 0 (h 51 0 - 1)))) ∧ (h 52 ((-1) + h 51 0) ≠ 0 → ((h 52 ((-1) + h 51 0) = 1 → ((0 ≤ h 53 ((-1) + h 51 0)) ∧ ((am_ok (h 53 ((-1) + h 51 0) / 12 * 12) ∧ am_ok (h 53 ((-1) + h 51 0) / 12 * 12 + h 53 ((-1) + h 51 0) % 12)) ∧ ((0 ≤ h 53 ((-1) + h 51 0) / 12 * 12 + h 53 ((-1) + h 51 0) % 12 ∧ h 53 ((-1) + h 51 0) / 12 * 12 + h 53 ((-1) + h 51 0) % 12 < 144) ∧ ((am_ok (h 53 ((-1) + h 51 0) % 12 * 12) ∧ am_ok (h 53 ((-1) + h 51 0) % 12 * 12 + h 53 ((-1) + h 51 0) / 12)) ∧ ((0 ≤ h 53 ((-1) + h 51 0) % 12 * 12 + h 53 ((-1) + h 51 0) / 12 ∧ h 53 ((-1) + h 51 0) % 12 * 12 + h 53 ((-1) + h 51 0) / 12 < 144) ∧ P (h 51 0 - 1) (am_up (am_up (am_up h 5 (12 * (h 53 ((-1) + h 51 0) / 12) + h 53 ((-1) + h 51 0) % 12) (h 54 ((-1) + h 51 0))) 5 (12 * (h 53 ((-1) + h 51 0) % 12) + h 53 ((-1) + h 51 0) / 12) (h 54 ((-1) + h 51 0))) 51 0 (h 51 0 - 1)))))))) ∧ (h 52 ((-1) + h 51 0) ≠ 1 → ((h 52 ((-1) + h 51 0) = 2 → ((am_ok (h 7 0 - 1)) ∧ P (h 51 0 - 1) (am_up (am_up h 7 0 (h 7 0 - 1)) 51 0 (h 51 0 - 1)))) ∧ (h 52 ((-1) + h 51 0) ≠ 2 → ((h 52 ((-1) + h 51 0) = 3 → ((am_ok (h 11 0 - h 54 ((-1) + h 51 0))) ∧ P (h 51 0 - 1) (am_up (am_up h 11 0 (h 11 0 - h 54 ((-1) + h 51 0))) 51 0 (h 51 0 - 1)))) ∧ (h 52 ((-1) + h 51 0) ≠ 3 → ((h 52 ((-1) + h 51 0) = 4 → ((am_ok (h 17 1 - 1)) ∧ P (h 51 0 - 1) (am_up (am_up h 17 1 (h 17 1 - 1)) 51 0 (h 51 0 - 1)))) ∧ (h 52 ((-1) + h 51 0) ≠ 4 → ((h 52 ((-1) + h 51 0) = 5 → ((0 ≤ h 53 ((-1) + h 51 0) ∧ h 53 ((-1) + h 51 0) < 60) ∧ P (h 51 0 - 1) (am_up (am_up h 22 (h 53 ((-1) + h 51 0)) (-1)) 51 0 (h 51 0 - 1)))) ∧ (h 52 ((-1) + h 51 0) ≠ 5 → P (h 51 0 - 1) (am_up (am_up h 0 12 (h 54 ((-1) + h 51 0))) 51 0 (h 51 0 - 1)))))))))))))))) ∧ (h 51 0 = 0 → ((am_ok (h 0 13 + 1)) ∧ P (-100006) (am_up h 0 13 (h 0 13 + 1))))) : ∃ a h1, am_cd 3 160 [.inr (.inr 0)] h (some (.inl a)) h1 ∧ P a h1 := by
  refine am_outi (d := 2) (ls := [some (.inr (.inr 0)), none, none, none]) rfl ab160 ml160 (Nat.le_of_ble_eq_true rfl) np160 rfl ?_
  refine x_aload_n (q160c0 0 rfl) rfl ?_
  refine x_getr (q160c0 1 rfl) fd0_10 ?_
  refine x_cvi (q160c0 2 rfl) rfl oc51 rfl (Nat.le_of_ble_eq_true rfl) (am_lifti (Nat.le_of_ble_eq_true rfl) (e_History_size (r1 := h 51 0) (rfl) ?_))
  refine x_if_ne (q160c0 3 rfl) (fun c1 => ?_) (fun c1 => ?_)
  · replace H := H.1 c1
    refine x_aload_n (q160c0 8 rfl) rfl ?_
    refine x_getr (q160c0 9 rfl) fd0_10 ?_
    refine x_cvi (q160c0 10 rfl) rfl oc51 rfl (Nat.le_of_ble_eq_true rfl) (am_lifti (Nat.le_of_ble_eq_true rfl) (e_History_latestKind (r1 := h 51 0) (r2 := h 52 ((-1) + h 51 0)) (rfl) (rfl) ?_))
    obtain ⟨⟨s2, s3⟩, H⟩ := H
    refine ⟨⟨s2, s3⟩, ?_⟩
    refine x_istore_n (q160c0 11 rfl) ⟨Nat.le_of_ble_eq_true rfl, trivial⟩ ?_
    refine x_aload_n (q160c0 12 rfl) rfl ?_
    refine x_getr (q160c0 13 rfl) fd0_10 ?_
    refine x_cvi (q160c0 14 rfl) rfl oc51 rfl (Nat.le_of_ble_eq_true rfl) (am_lifti (Nat.le_of_ble_eq_true rfl) (e_History_latestWhich (r1 := h 51 0) (r2 := h 53 ((-1) + h 51 0)) (rfl) (rfl) ?_))
    refine ⟨⟨s2, s3⟩, ?_⟩
    refine x_istore_n (q160c0 15 rfl) ⟨Nat.le_of_ble_eq_true rfl, trivial⟩ ?_
    refine x_aload_n (q160c0 16 rfl) rfl ?_
    refine x_getr (q160c0 17 rfl) fd0_10 ?_
    refine x_cvi (q160c0 18 rfl) rfl oc51 rfl (Nat.le_of_ble_eq_true rfl) (am_lifti (Nat.le_of_ble_eq_true rfl) (e_History_latestBefore (r1 := h 51 0) (r2 := h 54 ((-1) + h 51 0)) (rfl) (rfl) ?_))
    refine ⟨⟨s2, s3⟩, ?_⟩
    refine x_istore_n (q160c0 19 rfl) ⟨Nat.le_of_ble_eq_true rfl, trivial⟩ ?_
    refine x_iload_n (q160c0 20 rfl) rfl ?_
    refine x_tsw (q160c0 21 rfl) (tg := 159) (ts := [80, 90, 117, 127, 138, 148]) rfl rfl ?_
    refine sw_cons (fun c4 => ?_) (fun c4 => ?_)
    · replace H := H.1 c4
      refine x_aload_n (q160c0 22 rfl) rfl ?_
      refine x_getr (q160c0 23 rfl) fd0_0 ?_
      refine x_cvv (q160c0 24 rfl) rfl oc1 rfl (Nat.le_of_ble_eq_true rfl) (am_liftv (Nat.le_of_ble_eq_true rfl) (e_Land_unsettle (r1 := h 1 0) (rfl) ?_))
      obtain ⟨s5, H⟩ := H
      refine ⟨s5, ?_⟩
      refine x_goto (q160c0 25 rfl) ?_
      refine x_aload_n (q160c1 0 rfl) rfl ?_
      refine x_getr (q160c1 1 rfl) fd0_10 ?_
      refine x_cvi (q160c1 2 rfl) rfl oc51 rfl (Nat.le_of_ble_eq_true rfl) (am_lifti (Nat.le_of_ble_eq_true rfl) (e_History_dropLatest (r1 := h 51 0) (up_c rfl (rfl)) ?_))
      refine ⟨s2, ?_⟩
      exact x_ireti (q160c1 3 rfl) zb160 H
    · replace H := H.2 c4
      refine sw_cons (fun c6 => ?_) (fun c6 => ?_)
      · replace H := H.1 c6
        refine x_aload_n (q160c0 26 rfl) rfl ?_
        refine x_getr (q160c0 27 rfl) fd0_0 ?_
        refine x_aload_n (q160c0 28 rfl) rfl ?_
        refine x_getr (q160c0 29 rfl) fd0_0 ?_
        refine x_iload_n (q160c0 30 rfl) rfl ?_
        refine x_cvi (q160c0 31 rfl) rfl oc1 rfl (Nat.le_of_ble_eq_true rfl) (am_lifti (Nat.le_of_ble_eq_true rfl) (e_Land_firstOf   ?_))
        obtain ⟨s7, H⟩ := H
        refine ⟨s7, ?_⟩
        refine x_aload_n (q160c0 32 rfl) rfl ?_
        refine x_getr (q160c0 33 rfl) fd0_0 ?_
        refine x_iload_n (q160c0 34 rfl) rfl ?_
        refine x_cvi (q160c0 35 rfl) rfl oc1 rfl (Nat.le_of_ble_eq_true rfl) (am_lifti (Nat.le_of_ble_eq_true rfl) (e_Land_secondOf   ?_))
        refine ⟨s7, ?_⟩
        refine x_iload_n (q160c0 36 rfl) rfl ?_
        refine x_cvv (q160c0 37 rfl) rfl oc1 rfl (Nat.le_of_ble_eq_true rfl) (am_liftv (Nat.le_of_ble_eq_true rfl) (e_Land_lay   ?_))
        obtain ⟨⟨s8, s9⟩, H⟩ := H
        refine ⟨⟨s8, s9⟩, ?_⟩
        obtain ⟨s10, H⟩ := H
        refine ⟨s10, ?_⟩
        obtain ⟨⟨s11, s12⟩, H⟩ := H
        refine ⟨⟨s11, s12⟩, ?_⟩
        obtain ⟨s13, H⟩ := H
        refine ⟨s13, ?_⟩
        refine x_goto (q160c0 38 rfl) ?_
        refine x_aload_n (q160c1 0 rfl) rfl ?_
        refine x_getr (q160c1 1 rfl) fd0_10 ?_
        refine x_cvi (q160c1 2 rfl) rfl oc51 rfl (Nat.le_of_ble_eq_true rfl) (am_lifti (Nat.le_of_ble_eq_true rfl) (e_History_dropLatest (r1 := h 51 0) (up_c rfl (up_c rfl (rfl))) ?_))
        refine ⟨s2, ?_⟩
        exact x_ireti (q160c1 3 rfl) zb160 H
      · replace H := H.2 c6
        refine sw_cons (fun c14 => ?_) (fun c14 => ?_)
        · replace H := H.1 c14
          refine x_aload_n (q160c0 39 rfl) rfl ?_
          refine x_getr (q160c0 40 rfl) fd0_1 ?_
          refine x_cvv (q160c0 41 rfl) rfl oc7 rfl (Nat.le_of_ble_eq_true rfl) (am_liftv (Nat.le_of_ble_eq_true rfl) (e_Asked_forget (r1 := h 7 0) (rfl) ?_))
          obtain ⟨s15, H⟩ := H
          refine ⟨s15, ?_⟩
          refine x_goto (q160c0 42 rfl) ?_
          refine x_aload_n (q160c1 0 rfl) rfl ?_
          refine x_getr (q160c1 1 rfl) fd0_10 ?_
          refine x_cvi (q160c1 2 rfl) rfl oc51 rfl (Nat.le_of_ble_eq_true rfl) (am_lifti (Nat.le_of_ble_eq_true rfl) (e_History_dropLatest (r1 := h 51 0) (up_c rfl (rfl)) ?_))
          refine ⟨s2, ?_⟩
          exact x_ireti (q160c1 3 rfl) zb160 H
        · replace H := H.2 c14
          refine sw_cons (fun c16 => ?_) (fun c16 => ?_)
          · replace H := H.1 c16
            refine x_aload_n (q160c0 43 rfl) rfl ?_
            refine x_getr (q160c0 44 rfl) fd0_2 ?_
            refine x_iload_n (q160c0 45 rfl) rfl ?_
            refine x_cvv (q160c0 46 rfl) rfl oc11 rfl (Nat.le_of_ble_eq_true rfl) (am_liftv (Nat.le_of_ble_eq_true rfl) (e_Forms_drop (r1 := h 11 0) (rfl) ?_))
            obtain ⟨s17, H⟩ := H
            refine ⟨s17, ?_⟩
            refine x_goto (q160c0 47 rfl) ?_
            refine x_aload_n (q160c1 0 rfl) rfl ?_
            refine x_getr (q160c1 1 rfl) fd0_10 ?_
            refine x_cvi (q160c1 2 rfl) rfl oc51 rfl (Nat.le_of_ble_eq_true rfl) (am_lifti (Nat.le_of_ble_eq_true rfl) (e_History_dropLatest (r1 := h 51 0) (up_c rfl (rfl)) ?_))
            refine ⟨s2, ?_⟩
            exact x_ireti (q160c1 3 rfl) zb160 H
          · replace H := H.2 c16
            refine sw_cons (fun c18 => ?_) (fun c18 => ?_)
            · replace H := H.1 c18
              refine x_aload_n (q160c0 48 rfl) rfl ?_
              refine x_getr (q160c0 49 rfl) fd0_3 ?_
              refine x_cvv (q160c0 50 rfl) rfl oc17 rfl (Nat.le_of_ble_eq_true rfl) (am_liftv (Nat.le_of_ble_eq_true rfl) (e_Answers_erase (r1 := h 17 1) (rfl) ?_))
              obtain ⟨s19, H⟩ := H
              refine ⟨s19, ?_⟩
              refine x_goto (q160c0 51 rfl) ?_
              refine x_aload_n (q160c1 0 rfl) rfl ?_
              refine x_getr (q160c1 1 rfl) fd0_10 ?_
              refine x_cvi (q160c1 2 rfl) rfl oc51 rfl (Nat.le_of_ble_eq_true rfl) (am_lifti (Nat.le_of_ble_eq_true rfl) (e_History_dropLatest (r1 := h 51 0) (up_c rfl (rfl)) ?_))
              refine ⟨s2, ?_⟩
              exact x_ireti (q160c1 3 rfl) zb160 H
            · replace H := H.2 c18
              refine sw_cons (fun c20 => ?_) (fun c20 => ?_)
              · replace H := H.1 c20
                refine x_aload_n (q160c0 52 rfl) rfl ?_
                refine x_getr (q160c0 53 rfl) fd0_3 ?_
                refine x_iload_n (q160c0 54 rfl) rfl ?_
                refine x_cvv (q160c0 55 rfl) rfl oc17 rfl (Nat.le_of_ble_eq_true rfl) (am_liftv (Nat.le_of_ble_eq_true rfl) (e_Answers_restore   ?_))
                obtain ⟨s21, H⟩ := H
                refine ⟨s21, ?_⟩
                refine x_goto (q160c0 56 rfl) ?_
                refine x_aload_n (q160c1 0 rfl) rfl ?_
                refine x_getr (q160c1 1 rfl) fd0_10 ?_
                refine x_cvi (q160c1 2 rfl) rfl oc51 rfl (Nat.le_of_ble_eq_true rfl) (am_lifti (Nat.le_of_ble_eq_true rfl) (e_History_dropLatest (r1 := h 51 0) (up_c rfl (rfl)) ?_))
                refine ⟨s2, ?_⟩
                exact x_ireti (q160c1 3 rfl) zb160 H
              · replace H := H.2 c20
                refine sw_nil ?_
                refine x_aload_n (q160c0 57 rfl) rfl ?_
                refine x_iload_n (q160c0 58 rfl) rfl ?_
                refine x_putf (q160c0 59 rfl) fd0_12 ?_
                refine x_aload_n (q160c1 0 rfl) rfl ?_
                refine x_getr (q160c1 1 rfl) fd0_10 ?_
                refine x_cvi (q160c1 2 rfl) rfl oc51 rfl (Nat.le_of_ble_eq_true rfl) (am_lifti (Nat.le_of_ble_eq_true rfl) (e_History_dropLatest (r1 := h 51 0) (up_c rfl (rfl)) ?_))
                refine ⟨s2, ?_⟩
                exact x_ireti (q160c1 3 rfl) zb160 H
  · replace H := H.2 c1
    refine x_aload_n (q160c0 4 rfl) rfl ?_
    refine x_ldc (q160c0 5 rfl) ?_
    refine x_cvi (q160c0 6 rfl) rfl oc0 rfl (Nat.le_of_ble_eq_true rfl) (am_lifti (Nat.le_of_ble_eq_true rfl) (e_At_finding (r1 := h 0 13) (rfl) ?_))
    obtain ⟨s22, H⟩ := H
    refine ⟨s22, ?_⟩
    exact x_ireti (q160c0 7 rfl) zb160 H
theorem e_Mo_road {h : am_H} {x1 : Int} {x2 : Int} {x3 : Int} {P : Int → am_H → Prop} (H : (am_ok (h 57 0 - 1)) ∧ (((0 ≤ x1 ∧ x1 ≤ h 57 0 - 1) → (((0 ≤ x2 ∧ x2 ≤ h 57 0 - 1) → (((0 ≤ x3 ∧ x3 ≤ 99) → ((x1 ≠ x2 → (∃ h6, am_cd 2 77 [.inr (.inr 56)] h none h6 ∧ ((am_ok (12 * x1) ∧ am_ok (46 + 12 * x1) ∧ am_ok (46 + 12 * x1 + x2) ∧ (0 ≤ 46 + 12 * x1 + x2 ∧ 46 + 12 * x1 + x2 < 820)) ∧ ((am_ok (12 * x2) ∧ am_ok (46 + 12 * x2) ∧ am_ok (46 + 12 * x2 + x1) ∧ (0 ≤ 46 + 12 * x2 + x1 ∧ 46 + 12 * x2 + x1 < 820)) ∧ P (h6 57 (46 + 12 * x1 + x2)) (am_up (am_up h6 57 (46 + 12 * x1 + x2) x3) 57 (46 + 12 * x2 + x1) x3))))) ∧ (x1 = x2 → ((am_ok (h 56 3 + 1)) ∧ P (-100003) (am_up h 56 3 (h 56 3 + 1)))))) ∧ ((¬(0 ≤ x3 ∧ x3 ≤ 99)) → ((am_ok (h 56 3 + 1)) ∧ P (-100001) (am_up h 56 3 (h 56 3 + 1)))))) ∧ ((¬(0 ≤ x2 ∧ x2 ≤ h 57 0 - 1)) → ((am_ok (h 56 3 + 1)) ∧ P (-100001) (am_up h 56 3 (h 56 3 + 1)))))) ∧ ((¬(0 ≤ x1 ∧ x1 ≤ h 57 0 - 1)) → ((am_ok (h 56 3 + 1)) ∧ P (-100001) (am_up h 56 3 (h 56 3 + 1)))))) : ∃ a h1, am_cd 3 161 [.inr (.inr 56), .inl x1, .inl x2, .inl x3] h (some (.inl a)) h1 ∧ P a h1 := by
  refine am_outi (d := 2) (ls := [some (.inr (.inr 56)), some (.inl x1), some (.inl x2), some (.inl x3), none]) rfl ab161 ml161 (Nat.le_of_ble_eq_true rfl) np161 rfl ?_
  refine x_aload_n (q161c0 0 rfl) rfl ?_
  refine x_iload_n (q161c0 1 rfl) rfl ?_
  refine x_cvi (q161c0 2 rfl) rfl oc56 rfl (Nat.le_of_ble_eq_true rfl) (am_lifti (Nat.le_of_ble_eq_true rfl) (e_Mo_isVillage (r1 := h 57 0) (rfl) ?_))
  obtain ⟨s1, H⟩ := H
  refine ⟨s1, ?_⟩
  refine ⟨fun c2 => ?_, fun c2 => ?_⟩
  · replace H := H.1 c2
    refine x_if_eq_f (q161c0 3 rfl) (by decide) ?_
    refine x_aload_n (q161c0 4 rfl) rfl ?_
    refine x_iload_n (q161c0 5 rfl) rfl ?_
    refine x_cvi (q161c0 6 rfl) rfl oc56 rfl (Nat.le_of_ble_eq_true rfl) (am_lifti (Nat.le_of_ble_eq_true rfl) (e_Mo_isVillage (r1 := h 57 0) (rfl) ?_))
    refine ⟨s1, ?_⟩
    refine ⟨fun c3 => ?_, fun c3 => ?_⟩
    · replace H := H.1 c3
      refine x_if_eq_f (q161c0 7 rfl) (by decide) ?_
      refine x_iload_n (q161c0 8 rfl) rfl ?_
      refine x_iconst (q161c0 9 rfl) ?_
      refine x_bipush (q161c0 10 rfl) ?_
      refine x_csi (q161c0 11 rfl) rfl rfl rfl (Nat.le_of_ble_eq_true rfl) (am_lifti (Nat.le_of_ble_eq_true rfl) (e_Mo_in   ?_))
      refine ⟨fun c4 => ?_, fun c4 => ?_⟩
      · replace H := H.1 c4
        refine x_if_ne_t (q161c0 12 rfl) (by decide) ?_
        refine x_iload_n (q161c0 17 rfl) rfl ?_
        refine x_iload_n (q161c0 18 rfl) rfl ?_
        refine x_icmp_ne (q161c0 19 rfl) (fun c5 => ?_) (fun c5 => ?_)
        · replace H := H.1 c5
          refine x_aload_n (q161c0 24 rfl) rfl ?_
          obtain ⟨h6, w7, H⟩ := H
          refine x_cvv (q161c0 25 rfl) rfl oc56 rfl (Nat.le_of_ble_eq_true rfl) ⟨h6, w7, ?_⟩
          refine x_aload_n (q161c0 26 rfl) rfl ?_
          refine x_iload_n (q161c0 27 rfl) rfl ?_
          refine x_iload_n (q161c0 28 rfl) rfl ?_
          refine x_cvi (q161c0 29 rfl) rfl oc56 rfl (Nat.le_of_ble_eq_true rfl) (am_lifti (Nat.le_of_ble_eq_true rfl) (e_Mo_roadOf (r1 := h6 57 (46 + 12 * x1 + x2)) (rfl) ?_))
          obtain ⟨⟨s8, s9, s10, s11⟩, H⟩ := H
          refine ⟨⟨s8, s9, s10, s11⟩, ?_⟩
          obtain ⟨⟨s12, s13, s14, s15⟩, H⟩ := H
          refine x_istore (q161c0 30 rfl) ⟨Nat.le_of_ble_eq_true rfl, trivial⟩ ?_
          refine x_aload_n (q161c0 31 rfl) rfl ?_
          refine x_getr (q161c0 32 rfl) fd56_0 ?_
          refine x_bipush (q161c0 33 rfl) ?_
          refine x_bipush (q161c0 34 rfl) ?_
          refine x_iload_n (q161c0 35 rfl) rfl ?_
          refine x_imul (q161c0 36 rfl) s8 ?_
          refine x_iadd (q161c0 37 rfl) s9 ?_
          refine x_iload_n (q161c0 38 rfl) rfl ?_
          refine x_iadd (q161c0 39 rfl) s10 ?_
          refine x_iload_n (q161c0 40 rfl) rfl ?_
          refine x_iastore (q161c0 41 rfl) (al57 _) rfl (Nat.le_of_ble_eq_true rfl) s11 (j := 46 + 12 * x1 + x2) rfl ?_
          refine x_aload_n (q161c0 42 rfl) rfl ?_
          refine x_getr (q161c0 43 rfl) fd56_0 ?_
          refine x_bipush (q161c0 44 rfl) ?_
          refine x_bipush (q161c0 45 rfl) ?_
          refine x_iload_n (q161c0 46 rfl) rfl ?_
          refine x_imul (q161c0 47 rfl) s12 ?_
          refine x_iadd (q161c0 48 rfl) s13 ?_
          refine x_iload_n (q161c0 49 rfl) rfl ?_
          refine x_iadd (q161c0 50 rfl) s14 ?_
          refine x_iload_n (q161c0 51 rfl) rfl ?_
          refine x_iastore (q161c0 52 rfl) (al57 _) rfl (Nat.le_of_ble_eq_true rfl) s15 (j := 46 + 12 * x2 + x1) rfl ?_
          refine x_iload (q161c0 53 rfl) rfl ?_
          exact x_ireti (q161c0 54 rfl) zb161 H
        · replace H := H.2 c5
          refine x_aload_n (q161c0 20 rfl) rfl ?_
          refine x_ldc (q161c0 21 rfl) ?_
          refine x_cvi (q161c0 22 rfl) rfl oc56 rfl (Nat.le_of_ble_eq_true rfl) (am_lifti (Nat.le_of_ble_eq_true rfl) (e_Mo_finds (r1 := h 56 3) (rfl) ?_))
          obtain ⟨s16, H⟩ := H
          refine ⟨s16, ?_⟩
          exact x_ireti (q161c0 23 rfl) zb161 H
      · replace H := H.2 c4
        refine x_if_ne_f (q161c0 12 rfl) (by decide) ?_
        refine x_aload_n (q161c0 13 rfl) rfl ?_
        refine x_ldc (q161c0 14 rfl) ?_
        refine x_cvi (q161c0 15 rfl) rfl oc56 rfl (Nat.le_of_ble_eq_true rfl) (am_lifti (Nat.le_of_ble_eq_true rfl) (e_Mo_finds (r1 := h 56 3) (rfl) ?_))
        obtain ⟨s17, H⟩ := H
        refine ⟨s17, ?_⟩
        exact x_ireti (q161c0 16 rfl) zb161 H
    · replace H := H.2 c3
      refine x_if_eq_t (q161c0 7 rfl) (by decide) ?_
      refine x_aload_n (q161c0 13 rfl) rfl ?_
      refine x_ldc (q161c0 14 rfl) ?_
      refine x_cvi (q161c0 15 rfl) rfl oc56 rfl (Nat.le_of_ble_eq_true rfl) (am_lifti (Nat.le_of_ble_eq_true rfl) (e_Mo_finds (r1 := h 56 3) (rfl) ?_))
      obtain ⟨s18, H⟩ := H
      refine ⟨s18, ?_⟩
      exact x_ireti (q161c0 16 rfl) zb161 H
  · replace H := H.2 c2
    refine x_if_eq_t (q161c0 3 rfl) (by decide) ?_
    refine x_aload_n (q161c0 13 rfl) rfl ?_
    refine x_ldc (q161c0 14 rfl) ?_
    refine x_cvi (q161c0 15 rfl) rfl oc56 rfl (Nat.le_of_ble_eq_true rfl) (am_lifti (Nat.le_of_ble_eq_true rfl) (e_Mo_finds (r1 := h 56 3) (rfl) ?_))
    obtain ⟨s19, H⟩ := H
    refine ⟨s19, ?_⟩
    exact x_ireti (q161c0 16 rfl) zb161 H
theorem e_Mo_walk {h : am_H} {x1 : Int} {x2 : Int} {P : Int → am_H → Prop} (H : (am_ok (h 57 0 - 1)) ∧ (((0 ≤ x1 ∧ x1 ≤ h 57 0 - 1) → (((0 ≤ x2 ∧ x2 ≤ h 57 0 - 1) → (∃ h4, am_cd 2 120 [.inr (.inr 56), .inl x1] h none h4 ∧ ((0 ≤ x2 ∧ x2 < 12) ∧ ((0 ≤ h4 59 x2 → P (h4 59 x2) h4) ∧ (h4 59 x2 < 0 → ((am_ok (h4 56 3 + 1)) ∧ P (-100008) (am_up h4 56 3 (h4 56 3 + 1)))))))) ∧ ((¬(0 ≤ x2 ∧ x2 ≤ h 57 0 - 1)) → ((am_ok (h 56 3 + 1)) ∧ P (-100001) (am_up h 56 3 (h 56 3 + 1)))))) ∧ ((¬(0 ≤ x1 ∧ x1 ≤ h 57 0 - 1)) → ((am_ok (h 56 3 + 1)) ∧ P (-100001) (am_up h 56 3 (h 56 3 + 1)))))) : ∃ a h1, am_cd 3 162 [.inr (.inr 56), .inl x1, .inl x2] h (some (.inl a)) h1 ∧ P a h1 := by
  refine am_outi (d := 2) (ls := [some (.inr (.inr 56)), some (.inl x1), some (.inl x2)]) rfl ab162 ml162 (Nat.le_of_ble_eq_true rfl) np162 rfl ?_
  refine x_aload_n (q162c0 0 rfl) rfl ?_
  refine x_iload_n (q162c0 1 rfl) rfl ?_
  refine x_cvi (q162c0 2 rfl) rfl oc56 rfl (Nat.le_of_ble_eq_true rfl) (am_lifti (Nat.le_of_ble_eq_true rfl) (e_Mo_isVillage (r1 := h 57 0) (rfl) ?_))
  obtain ⟨s1, H⟩ := H
  refine ⟨s1, ?_⟩
  refine ⟨fun c2 => ?_, fun c2 => ?_⟩
  · replace H := H.1 c2
    refine x_if_eq_f (q162c0 3 rfl) (by decide) ?_
    refine x_aload_n (q162c0 4 rfl) rfl ?_
    refine x_iload_n (q162c0 5 rfl) rfl ?_
    refine x_cvi (q162c0 6 rfl) rfl oc56 rfl (Nat.le_of_ble_eq_true rfl) (am_lifti (Nat.le_of_ble_eq_true rfl) (e_Mo_isVillage (r1 := h 57 0) (rfl) ?_))
    refine ⟨s1, ?_⟩
    refine ⟨fun c3 => ?_, fun c3 => ?_⟩
    · replace H := H.1 c3
      refine x_if_ne_t (q162c0 7 rfl) (by decide) ?_
      refine x_aload_n (q162c0 12 rfl) rfl ?_
      refine x_iload_n (q162c0 13 rfl) rfl ?_
      obtain ⟨h4, w5, H⟩ := H
      refine x_cvv (q162c0 14 rfl) rfl oc56 rfl (Nat.le_of_ble_eq_true rfl) ⟨h4, w5, ?_⟩
      obtain ⟨s6, H⟩ := H
      refine x_aload_n (q162c0 15 rfl) rfl ?_
      refine x_getr (q162c0 16 rfl) fd56_4 ?_
      refine x_iload_n (q162c0 17 rfl) rfl ?_
      refine x_iaload (q162c0 18 rfl) (al59 _) rfl (ag_l rfl rfl (rfl)) s6 ?_
      refine x_if_ge (q162c0 19 rfl) (fun c7 => ?_) (fun c7 => ?_)
      · replace H := H.1 c7
        refine x_aload_n (q162c0 24 rfl) rfl ?_
        refine x_getr (q162c0 25 rfl) fd56_4 ?_
        refine x_iload_n (q162c0 26 rfl) rfl ?_
        refine x_iaload (q162c0 27 rfl) (al59 _) rfl (ag_l rfl rfl (rfl)) s6 ?_
        exact x_ireti (q162c0 28 rfl) zb162 H
      · replace H := H.2 c7
        refine x_aload_n (q162c0 20 rfl) rfl ?_
        refine x_ldc (q162c0 21 rfl) ?_
        refine x_cvi (q162c0 22 rfl) rfl oc56 rfl (Nat.le_of_ble_eq_true rfl) (am_lifti (Nat.le_of_ble_eq_true rfl) (e_Mo_finds (r1 := h4 56 3) (rfl) ?_))
        obtain ⟨s8, H⟩ := H
        refine ⟨s8, ?_⟩
        refine x_goto (q162c0 23 rfl) ?_
        exact x_ireti (q162c0 28 rfl) zb162 H
    · replace H := H.2 c3
      refine x_if_ne_f (q162c0 7 rfl) (by decide) ?_
      refine x_aload_n (q162c0 8 rfl) rfl ?_
      refine x_ldc (q162c0 9 rfl) ?_
      refine x_cvi (q162c0 10 rfl) rfl oc56 rfl (Nat.le_of_ble_eq_true rfl) (am_lifti (Nat.le_of_ble_eq_true rfl) (e_Mo_finds (r1 := h 56 3) (rfl) ?_))
      obtain ⟨s9, H⟩ := H
      refine ⟨s9, ?_⟩
      exact x_ireti (q162c0 11 rfl) zb162 H
  · replace H := H.2 c2
    refine x_if_eq_t (q162c0 3 rfl) (by decide) ?_
    refine x_aload_n (q162c0 8 rfl) rfl ?_
    refine x_ldc (q162c0 9 rfl) ?_
    refine x_cvi (q162c0 10 rfl) rfl oc56 rfl (Nat.le_of_ble_eq_true rfl) (am_lifti (Nat.le_of_ble_eq_true rfl) (e_Mo_finds (r1 := h 56 3) (rfl) ?_))
    obtain ⟨s10, H⟩ := H
    refine ⟨s10, ?_⟩
    exact x_ireti (q162c0 11 rfl) zb162 H
theorem e_Mo_asked {h : am_H} {x1 : Int} {x2 : Int} {x3 : Int} {P : Int → am_H → Prop} (H : (am_ok (h 57 0 - 1)) ∧ (((0 ≤ x1 ∧ x1 ≤ h 57 0 - 1) → (((0 ≤ x2 ∧ x2 ≤ 3) → (((1 ≤ x3 ∧ x3 ≤ 9) → ((h 57 1 ≠ 20 → (∃ h6, am_cd 2 77 [.inr (.inr 56)] h none h6 ∧ ((am_ok (h6 57 1 + 1) ∧ am_ok (3 * h6 57 1) ∧ am_ok (190 + 3 * h6 57 1) ∧ (0 ≤ 190 + 3 * h6 57 1 ∧ 190 + 3 * h6 57 1 < 820) ∧ am_ok (190 + 3 * h6 57 1 + 1) ∧ (0 ≤ 190 + 3 * h6 57 1 + 1 ∧ 190 + 3 * h6 57 1 + 1 < 820) ∧ am_ok (190 + 3 * h6 57 1 + 2) ∧ (0 ≤ 190 + 3 * h6 57 1 + 2 ∧ 190 + 3 * h6 57 1 + 2 < 820)) ∧ P (h6 57 1) (am_up (am_up (am_up (am_up h6 57 1 (h6 57 1 + 1)) 57 (190 + 3 * h6 57 1) x1) 57 (191 + 3 * h6 57 1) x2) 57 (192 + 3 * h6 57 1) x3)))) ∧ (h 57 1 = 20 → ((am_ok (h 56 3 + 1)) ∧ P (-100005) (am_up h 56 3 (h 56 3 + 1)))))) ∧ ((¬(1 ≤ x3 ∧ x3 ≤ 9)) → ((am_ok (h 56 3 + 1)) ∧ P (-100001) (am_up h 56 3 (h 56 3 + 1)))))) ∧ ((¬(0 ≤ x2 ∧ x2 ≤ 3)) → ((am_ok (h 56 3 + 1)) ∧ P (-100001) (am_up h 56 3 (h 56 3 + 1)))))) ∧ ((¬(0 ≤ x1 ∧ x1 ≤ h 57 0 - 1)) → ((am_ok (h 56 3 + 1)) ∧ P (-100001) (am_up h 56 3 (h 56 3 + 1)))))) : ∃ a h1, am_cd 3 163 [.inr (.inr 56), .inl x1, .inl x2, .inl x3] h (some (.inl a)) h1 ∧ P a h1 := by
  refine am_outi (d := 2) (ls := [some (.inr (.inr 56)), some (.inl x1), some (.inl x2), some (.inl x3), none]) rfl ab163 ml163 (Nat.le_of_ble_eq_true rfl) np163 rfl ?_
  refine x_aload_n (q163c0 0 rfl) rfl ?_
  refine x_iload_n (q163c0 1 rfl) rfl ?_
  refine x_cvi (q163c0 2 rfl) rfl oc56 rfl (Nat.le_of_ble_eq_true rfl) (am_lifti (Nat.le_of_ble_eq_true rfl) (e_Mo_isVillage (r1 := h 57 0) (rfl) ?_))
  obtain ⟨s1, H⟩ := H
  refine ⟨s1, ?_⟩
  refine ⟨fun c2 => ?_, fun c2 => ?_⟩
  · replace H := H.1 c2
    refine x_if_eq_f (q163c0 3 rfl) (by decide) ?_
    refine x_iload_n (q163c0 4 rfl) rfl ?_
    refine x_iconst (q163c0 5 rfl) ?_
    refine x_iconst (q163c0 6 rfl) ?_
    refine x_csi (q163c0 7 rfl) rfl rfl rfl (Nat.le_of_ble_eq_true rfl) (am_lifti (Nat.le_of_ble_eq_true rfl) (e_Mo_in   ?_))
    refine ⟨fun c3 => ?_, fun c3 => ?_⟩
    · replace H := H.1 c3
      refine x_if_eq_f (q163c0 8 rfl) (by decide) ?_
      refine x_iload_n (q163c0 9 rfl) rfl ?_
      refine x_iconst (q163c0 10 rfl) ?_
      refine x_bipush (q163c0 11 rfl) ?_
      refine x_csi (q163c0 12 rfl) rfl rfl rfl (Nat.le_of_ble_eq_true rfl) (am_lifti (Nat.le_of_ble_eq_true rfl) (e_Mo_in   ?_))
      refine ⟨fun c4 => ?_, fun c4 => ?_⟩
      · replace H := H.1 c4
        refine x_if_ne_t (q163c0 13 rfl) (by decide) ?_
        refine x_aload_n (q163c0 18 rfl) rfl ?_
        refine x_getr (q163c0 19 rfl) fd56_0 ?_
        refine x_iconst (q163c0 20 rfl) ?_
        refine x_iaload (q163c0 21 rfl) (al57 _) rfl (ag_l rfl rfl (rfl)) (by decide) ?_
        refine x_bipush (q163c0 22 rfl) ?_
        refine x_icmp_ne (q163c0 23 rfl) (fun c5 => ?_) (fun c5 => ?_)
        · replace H := H.1 c5
          refine x_aload_n (q163c0 28 rfl) rfl ?_
          obtain ⟨h6, w7, H⟩ := H
          refine x_cvv (q163c0 29 rfl) rfl oc56 rfl (Nat.le_of_ble_eq_true rfl) ⟨h6, w7, ?_⟩
          obtain ⟨⟨s8, s9, s10, s11, s12, s13, s14, s15⟩, H⟩ := H
          refine x_aload_n (q163c0 30 rfl) rfl ?_
          refine x_getr (q163c0 31 rfl) fd56_0 ?_
          refine x_iconst (q163c0 32 rfl) ?_
          refine x_iaload (q163c0 33 rfl) (al57 _) rfl (ag_l rfl rfl (rfl)) (by decide) ?_
          refine x_istore (q163c0 34 rfl) ⟨Nat.le_of_ble_eq_true rfl, trivial⟩ ?_
          refine x_aload_n (q163c0 35 rfl) rfl ?_
          refine x_getr (q163c0 36 rfl) fd56_0 ?_
          refine x_iconst (q163c0 37 rfl) ?_
          refine x_dup2 (q163c0 38 rfl) ⟨trivial, trivial⟩ ?_
          refine x_iaload (q163c0 39 rfl) (al57 _) rfl (ag_l rfl rfl (rfl)) (by decide) ?_
          refine x_iconst (q163c0 40 rfl) ?_
          refine x_iadd (q163c0 41 rfl) s8 ?_
          refine x_iastore (q163c0 42 rfl) (al57 _) rfl (Nat.le_of_ble_eq_true rfl) (by decide) (j := 1) rfl ?_
          refine x_aload_n (q163c0 43 rfl) rfl ?_
          refine x_getr (q163c0 44 rfl) fd56_0 ?_
          refine x_sipush (q163c0 45 rfl) ?_
          refine x_iconst (q163c0 46 rfl) ?_
          refine x_iload (q163c0 47 rfl) rfl ?_
          refine x_imul (q163c0 48 rfl) s9 ?_
          refine x_iadd (q163c0 49 rfl) s10 ?_
          refine x_iload_n (q163c0 50 rfl) rfl ?_
          refine x_iastore (q163c0 51 rfl) (al57 _) rfl (Nat.le_of_ble_eq_true rfl) s11 (j := 190 + 3 * h6 57 1) rfl ?_
          refine x_aload_n (q163c0 52 rfl) rfl ?_
          refine x_getr (q163c0 53 rfl) fd56_0 ?_
          refine x_sipush (q163c0 54 rfl) ?_
          refine x_iconst (q163c0 55 rfl) ?_
          refine x_iload (q163c0 56 rfl) rfl ?_
          refine x_imul (q163c0 57 rfl) s9 ?_
          refine x_iadd (q163c0 58 rfl) s10 ?_
          refine x_iconst (q163c0 59 rfl) ?_
          refine x_iadd (q163c1 0 rfl) s12 ?_
          refine x_iload_n (q163c1 1 rfl) rfl ?_
          refine x_iastore (q163c1 2 rfl) (al57 _) rfl (Nat.le_of_ble_eq_true rfl) s13 (j := 191 + 3 * h6 57 1) (by omega) ?_
          refine x_aload_n (q163c1 3 rfl) rfl ?_
          refine x_getr (q163c1 4 rfl) fd56_0 ?_
          refine x_sipush (q163c1 5 rfl) ?_
          refine x_iconst (q163c1 6 rfl) ?_
          refine x_iload (q163c1 7 rfl) rfl ?_
          refine x_imul (q163c1 8 rfl) s9 ?_
          refine x_iadd (q163c1 9 rfl) s10 ?_
          refine x_iconst (q163c1 10 rfl) ?_
          refine x_iadd (q163c1 11 rfl) s14 ?_
          refine x_iload_n (q163c1 12 rfl) rfl ?_
          refine x_iastore (q163c1 13 rfl) (al57 _) rfl (Nat.le_of_ble_eq_true rfl) s15 (j := 192 + 3 * h6 57 1) (by omega) ?_
          refine x_iload (q163c1 14 rfl) rfl ?_
          exact x_ireti (q163c1 15 rfl) zb163 H
        · replace H := H.2 c5
          refine x_aload_n (q163c0 24 rfl) rfl ?_
          refine x_ldc (q163c0 25 rfl) ?_
          refine x_cvi (q163c0 26 rfl) rfl oc56 rfl (Nat.le_of_ble_eq_true rfl) (am_lifti (Nat.le_of_ble_eq_true rfl) (e_Mo_finds (r1 := h 56 3) (rfl) ?_))
          obtain ⟨s16, H⟩ := H
          refine ⟨s16, ?_⟩
          exact x_ireti (q163c0 27 rfl) zb163 H
      · replace H := H.2 c4
        refine x_if_ne_f (q163c0 13 rfl) (by decide) ?_
        refine x_aload_n (q163c0 14 rfl) rfl ?_
        refine x_ldc (q163c0 15 rfl) ?_
        refine x_cvi (q163c0 16 rfl) rfl oc56 rfl (Nat.le_of_ble_eq_true rfl) (am_lifti (Nat.le_of_ble_eq_true rfl) (e_Mo_finds (r1 := h 56 3) (rfl) ?_))
        obtain ⟨s17, H⟩ := H
        refine ⟨s17, ?_⟩
        exact x_ireti (q163c0 17 rfl) zb163 H
    · replace H := H.2 c3
      refine x_if_eq_t (q163c0 8 rfl) (by decide) ?_
      refine x_aload_n (q163c0 14 rfl) rfl ?_
      refine x_ldc (q163c0 15 rfl) ?_
      refine x_cvi (q163c0 16 rfl) rfl oc56 rfl (Nat.le_of_ble_eq_true rfl) (am_lifti (Nat.le_of_ble_eq_true rfl) (e_Mo_finds (r1 := h 56 3) (rfl) ?_))
      obtain ⟨s18, H⟩ := H
      refine ⟨s18, ?_⟩
      exact x_ireti (q163c0 17 rfl) zb163 H
  · replace H := H.2 c2
    refine x_if_eq_t (q163c0 3 rfl) (by decide) ?_
    refine x_aload_n (q163c0 14 rfl) rfl ?_
    refine x_ldc (q163c0 15 rfl) ?_
    refine x_cvi (q163c0 16 rfl) rfl oc56 rfl (Nat.le_of_ble_eq_true rfl) (am_lifti (Nat.le_of_ble_eq_true rfl) (e_Mo_finds (r1 := h 56 3) (rfl) ?_))
    obtain ⟨s19, H⟩ := H
    refine ⟨s19, ?_⟩
    exact x_ireti (q163c0 17 rfl) zb163 H
theorem e_Mo_sound {h : am_H} {x1 : Int} {x2 : Int} {P : Int → am_H → Prop} (H : (am_ok (h 57 2 - 1)) ∧ (((0 ≤ x1 ∧ x1 ≤ h 57 2 - 1) → ((am_ok (9 * x1) ∧ am_ok (250 + 9 * x1) ∧ (0 ≤ 250 + 9 * x1 ∧ 250 + 9 * x1 < 820)) ∧ ((am_ok (h 57 (250 + 9 * x1) - 1)) ∧ ((((-1) ≤ x2 ∧ x2 ≤ h 57 (250 + 9 * x1) - 1) → ((0 ≤ x2 → ((am_ok (250 + 9 * x1 + 1) ∧ am_ok (250 + 9 * x1 + 1 + x2) ∧ (0 ≤ 250 + 9 * x1 + 1 + x2 ∧ 250 + 9 * x1 + 1 + x2 < 820)) ∧ P (h 57 (251 + 9 * x1 + x2)) h)) ∧ (x2 < 0 → P (h 57 (250 + 9 * x1)) h))) ∧ ((¬((-1) ≤ x2 ∧ x2 ≤ h 57 (250 + 9 * x1) - 1)) → ((am_ok (h 56 3 + 1)) ∧ P (-100001) (am_up h 56 3 (h 56 3 + 1)))))))) ∧ ((¬(0 ≤ x1 ∧ x1 ≤ h 57 2 - 1)) → ((am_ok (h 56 3 + 1)) ∧ P (-100001) (am_up h 56 3 (h 56 3 + 1)))))) : ∃ a h1, am_cd 3 164 [.inr (.inr 56), .inl x1, .inl x2] h (some (.inl a)) h1 ∧ P a h1 := by
  refine am_outi (d := 2) (ls := [some (.inr (.inr 56)), some (.inl x1), some (.inl x2)]) rfl ab164 ml164 (Nat.le_of_ble_eq_true rfl) np164 rfl ?_
  refine x_aload_n (q164c0 0 rfl) rfl ?_
  refine x_iload_n (q164c0 1 rfl) rfl ?_
  refine x_cvi (q164c0 2 rfl) rfl oc56 rfl (Nat.le_of_ble_eq_true rfl) (am_lifti (Nat.le_of_ble_eq_true rfl) (e_Mo_isForm (r1 := h 57 2) (rfl) ?_))
  obtain ⟨s1, H⟩ := H
  refine ⟨s1, ?_⟩
  refine ⟨fun c2 => ?_, fun c2 => ?_⟩
  · replace H := H.1 c2
    refine x_if_eq_f (q164c0 3 rfl) (by decide) ?_
    refine x_iload_n (q164c0 4 rfl) rfl ?_
    refine x_iconst (q164c0 5 rfl) ?_
    refine x_aload_n (q164c0 6 rfl) rfl ?_
    refine x_iload_n (q164c0 7 rfl) rfl ?_
    refine x_cvi (q164c0 8 rfl) rfl oc56 rfl (Nat.le_of_ble_eq_true rfl) (am_lifti (Nat.le_of_ble_eq_true rfl) (e_Mo_sizeOfForm (r1 := h 57 (250 + 9 * x1)) (rfl) ?_))
    obtain ⟨⟨s3, s4, s5⟩, H⟩ := H
    refine ⟨⟨s3, s4, s5⟩, ?_⟩
    obtain ⟨s6, H⟩ := H
    refine x_iconst (q164c0 9 rfl) ?_
    refine x_isub (q164c0 10 rfl) s6 ?_
    refine x_csi (q164c0 11 rfl) rfl rfl rfl (Nat.le_of_ble_eq_true rfl) (am_lifti (Nat.le_of_ble_eq_true rfl) (e_Mo_in   ?_))
    refine ⟨fun c7 => ?_, fun c7 => ?_⟩
    · replace H := H.1 c7
      refine x_if_ne_t (q164c0 12 rfl) (by decide) ?_
      refine x_iload_n (q164c0 17 rfl) rfl ?_
      refine x_if_ge (q164c0 18 rfl) (fun c8 => ?_) (fun c8 => ?_)
      · replace H := H.1 c8
        refine x_aload_n (q164c0 23 rfl) rfl ?_
        refine x_iload_n (q164c0 24 rfl) rfl ?_
        refine x_iload_n (q164c0 25 rfl) rfl ?_
        refine x_cvi (q164c0 26 rfl) rfl oc56 rfl (Nat.le_of_ble_eq_true rfl) (am_lifti (Nat.le_of_ble_eq_true rfl) (e_Mo_soundOf (r1 := h 57 (251 + 9 * x1 + x2)) (rfl) ?_))
        obtain ⟨⟨s9, s10, s11⟩, H⟩ := H
        refine ⟨⟨s3, s4, s9, s10, s11⟩, ?_⟩
        exact x_ireti (q164c0 27 rfl) zb164 H
      · replace H := H.2 c8
        refine x_aload_n (q164c0 19 rfl) rfl ?_
        refine x_iload_n (q164c0 20 rfl) rfl ?_
        refine x_cvi (q164c0 21 rfl) rfl oc56 rfl (Nat.le_of_ble_eq_true rfl) (am_lifti (Nat.le_of_ble_eq_true rfl) (e_Mo_sizeOfForm (r1 := h 57 (250 + 9 * x1)) (rfl) ?_))
        refine ⟨⟨s3, s4, s5⟩, ?_⟩
        refine x_goto (q164c0 22 rfl) ?_
        exact x_ireti (q164c0 27 rfl) zb164 H
    · replace H := H.2 c7
      refine x_if_ne_f (q164c0 12 rfl) (by decide) ?_
      refine x_aload_n (q164c0 13 rfl) rfl ?_
      refine x_ldc (q164c0 14 rfl) ?_
      refine x_cvi (q164c0 15 rfl) rfl oc56 rfl (Nat.le_of_ble_eq_true rfl) (am_lifti (Nat.le_of_ble_eq_true rfl) (e_Mo_finds (r1 := h 56 3) (rfl) ?_))
      obtain ⟨s12, H⟩ := H
      refine ⟨s12, ?_⟩
      exact x_ireti (q164c0 16 rfl) zb164 H
  · replace H := H.2 c2
    refine x_if_eq_t (q164c0 3 rfl) (by decide) ?_
    refine x_aload_n (q164c0 13 rfl) rfl ?_
    refine x_ldc (q164c0 14 rfl) ?_
    refine x_cvi (q164c0 15 rfl) rfl oc56 rfl (Nat.le_of_ble_eq_true rfl) (am_lifti (Nat.le_of_ble_eq_true rfl) (e_Mo_finds (r1 := h 56 3) (rfl) ?_))
    obtain ⟨s13, H⟩ := H
    refine ⟨s13, ?_⟩
    exact x_ireti (q164c0 16 rfl) zb164 H
theorem e_Mo_far {h : am_H} {x1 : Int} {x2 : Int} {P : Int → am_H → Prop} (H : (am_ok (h 57 2 - 1)) ∧ (((0 ≤ x1 ∧ x1 ≤ h 57 2 - 1) → (((0 ≤ x2 ∧ x2 ≤ h 57 2 - 1) → (∃ a5 h4, am_cd 2 124 [.inr (.inr 56), .inl x1, .inl x2] h (some (.inl a5)) h4 ∧ P a5 h4)) ∧ ((¬(0 ≤ x2 ∧ x2 ≤ h 57 2 - 1)) → ((am_ok (h 56 3 + 1)) ∧ P (-100001) (am_up h 56 3 (h 56 3 + 1)))))) ∧ ((¬(0 ≤ x1 ∧ x1 ≤ h 57 2 - 1)) → ((am_ok (h 56 3 + 1)) ∧ P (-100001) (am_up h 56 3 (h 56 3 + 1)))))) : ∃ a h1, am_cd 3 165 [.inr (.inr 56), .inl x1, .inl x2] h (some (.inl a)) h1 ∧ P a h1 := by
  refine am_outi (d := 2) (ls := [some (.inr (.inr 56)), some (.inl x1), some (.inl x2)]) rfl ab165 ml165 (Nat.le_of_ble_eq_true rfl) np165 rfl ?_
  refine x_aload_n (q165c0 0 rfl) rfl ?_
  refine x_iload_n (q165c0 1 rfl) rfl ?_
  refine x_cvi (q165c0 2 rfl) rfl oc56 rfl (Nat.le_of_ble_eq_true rfl) (am_lifti (Nat.le_of_ble_eq_true rfl) (e_Mo_isForm (r1 := h 57 2) (rfl) ?_))
  obtain ⟨s1, H⟩ := H
  refine ⟨s1, ?_⟩
  refine ⟨fun c2 => ?_, fun c2 => ?_⟩
  · replace H := H.1 c2
    refine x_if_eq_f (q165c0 3 rfl) (by decide) ?_
    refine x_aload_n (q165c0 4 rfl) rfl ?_
    refine x_iload_n (q165c0 5 rfl) rfl ?_
    refine x_cvi (q165c0 6 rfl) rfl oc56 rfl (Nat.le_of_ble_eq_true rfl) (am_lifti (Nat.le_of_ble_eq_true rfl) (e_Mo_isForm (r1 := h 57 2) (rfl) ?_))
    refine ⟨s1, ?_⟩
    refine ⟨fun c3 => ?_, fun c3 => ?_⟩
    · replace H := H.1 c3
      refine x_if_eq_f (q165c0 7 rfl) (by decide) ?_
      refine x_aload_n (q165c0 8 rfl) rfl ?_
      refine x_iload_n (q165c0 9 rfl) rfl ?_
      refine x_iload_n (q165c0 10 rfl) rfl ?_
      obtain ⟨a5, h4, w6, H⟩ := H
      refine x_cvi (q165c0 11 rfl) rfl oc56 rfl (Nat.le_of_ble_eq_true rfl) ⟨a5, h4, w6, ?_⟩
      refine x_goto (q165c0 12 rfl) ?_
      exact x_ireti (q165c0 16 rfl) zb165 H
    · replace H := H.2 c3
      refine x_if_eq_t (q165c0 7 rfl) (by decide) ?_
      refine x_aload_n (q165c0 13 rfl) rfl ?_
      refine x_ldc (q165c0 14 rfl) ?_
      refine x_cvi (q165c0 15 rfl) rfl oc56 rfl (Nat.le_of_ble_eq_true rfl) (am_lifti (Nat.le_of_ble_eq_true rfl) (e_Mo_finds (r1 := h 56 3) (rfl) ?_))
      obtain ⟨s7, H⟩ := H
      refine ⟨s7, ?_⟩
      exact x_ireti (q165c0 16 rfl) zb165 H
  · replace H := H.2 c2
    refine x_if_eq_t (q165c0 3 rfl) (by decide) ?_
    refine x_aload_n (q165c0 13 rfl) rfl ?_
    refine x_ldc (q165c0 14 rfl) ?_
    refine x_cvi (q165c0 15 rfl) rfl oc56 rfl (Nat.le_of_ble_eq_true rfl) (am_lifti (Nat.le_of_ble_eq_true rfl) (e_Mo_finds (r1 := h 56 3) (rfl) ?_))
    obtain ⟨s8, H⟩ := H
    refine ⟨s8, ?_⟩
    exact x_ireti (q165c0 16 rfl) zb165 H
theorem e_Mo_answer {h : am_H} {x1 : Int} {x2 : Int} {x3 : Int} {P : Int → am_H → Prop} (H : (am_ok (h 57 1 - 1)) ∧ (((0 ≤ x1 ∧ x1 ≤ h 57 1 - 1) → (((0 ≤ x2 ∧ x2 ≤ 5) → ((am_ok (h 57 2 - 1)) ∧ (((0 ≤ x3 ∧ x3 ≤ h 57 2 - 1) → ((h 57 3 ≠ 60 → (∃ h7, am_cd 2 77 [.inr (.inr 56)] h none h7 ∧ ((am_ok (5 * h7 57 3) ∧ am_ok (520 + 5 * h7 57 3) ∧ am_ok (h7 57 3 + 1) ∧ (0 ≤ 520 + 5 * h7 57 3 ∧ 520 + 5 * h7 57 3 < 820) ∧ am_ok (520 + 5 * h7 57 3 + 1) ∧ (0 ≤ 520 + 5 * h7 57 3 + 1 ∧ 520 + 5 * h7 57 3 + 1 < 820) ∧ am_ok (520 + 5 * h7 57 3 + 2) ∧ (0 ≤ 520 + 5 * h7 57 3 + 2 ∧ 520 + 5 * h7 57 3 + 2 < 820) ∧ am_ok (520 + 5 * h7 57 3 + 3) ∧ (0 ≤ 520 + 5 * h7 57 3 + 3 ∧ 520 + 5 * h7 57 3 + 3 < 820) ∧ am_ok (520 + 5 * h7 57 3 + 4) ∧ (0 ≤ 520 + 5 * h7 57 3 + 4 ∧ 520 + 5 * h7 57 3 + 4 < 820)) ∧ P (h7 57 3) (am_up (am_up (am_up (am_up (am_up (am_up h7 57 3 (h7 57 3 + 1)) 57 (520 + 5 * h7 57 3) x1) 57 (521 + 5 * h7 57 3) x2) 57 (522 + 5 * h7 57 3) x3) 57 (523 + 5 * h7 57 3) (if 4 = 522 + 5 * h7 57 3 then x3 else if 4 = 521 + 5 * h7 57 3 then x2 else if 4 = 520 + 5 * h7 57 3 then x1 else h7 57 4)) 57 (524 + 5 * h7 57 3) (-1))))) ∧ (h 57 3 = 60 → ((am_ok (h 56 3 + 1)) ∧ P (-100005) (am_up h 56 3 (h 56 3 + 1)))))) ∧ ((¬(0 ≤ x3 ∧ x3 ≤ h 57 2 - 1)) → ((am_ok (h 56 3 + 1)) ∧ P (-100001) (am_up h 56 3 (h 56 3 + 1))))))) ∧ ((¬(0 ≤ x2 ∧ x2 ≤ 5)) → ((am_ok (h 56 3 + 1)) ∧ P (-100001) (am_up h 56 3 (h 56 3 + 1)))))) ∧ ((¬(0 ≤ x1 ∧ x1 ≤ h 57 1 - 1)) → ((am_ok (h 56 3 + 1)) ∧ P (-100001) (am_up h 56 3 (h 56 3 + 1)))))) : ∃ a h1, am_cd 3 166 [.inr (.inr 56), .inl x1, .inl x2, .inl x3] h (some (.inl a)) h1 ∧ P a h1 := by
  refine am_outi (d := 2) (ls := [some (.inr (.inr 56)), some (.inl x1), some (.inl x2), some (.inl x3), none, none]) rfl ab166 ml166 (Nat.le_of_ble_eq_true rfl) np166 rfl ?_
  obtain ⟨s1, H⟩ := H
  refine x_iload_n (q166c0 0 rfl) rfl ?_
  refine x_iconst (q166c0 1 rfl) ?_
  refine x_aload_n (q166c0 2 rfl) rfl ?_
  refine x_getr (q166c0 3 rfl) fd56_0 ?_
  refine x_iconst (q166c0 4 rfl) ?_
  refine x_iaload (q166c0 5 rfl) (al57 _) rfl (ag_l rfl rfl (rfl)) (by decide) ?_
  refine x_iconst (q166c0 6 rfl) ?_
  refine x_isub (q166c0 7 rfl) s1 ?_
  refine x_csi (q166c0 8 rfl) rfl rfl rfl (Nat.le_of_ble_eq_true rfl) (am_lifti (Nat.le_of_ble_eq_true rfl) (e_Mo_in   ?_))
  refine ⟨fun c2 => ?_, fun c2 => ?_⟩
  · replace H := H.1 c2
    refine x_if_eq_f (q166c0 9 rfl) (by decide) ?_
    refine x_iload_n (q166c0 10 rfl) rfl ?_
    refine x_csi (q166c0 11 rfl) rfl rfl rfl (Nat.le_of_ble_eq_true rfl) (am_lifti (Nat.le_of_ble_eq_true rfl) (e_Mo_isThing   ?_))
    refine ⟨fun c3 => ?_, fun c3 => ?_⟩
    · replace H := H.1 c3
      refine x_if_eq_f (q166c0 12 rfl) (by decide) ?_
      refine x_aload_n (q166c0 13 rfl) rfl ?_
      refine x_iload_n (q166c0 14 rfl) rfl ?_
      refine x_cvi (q166c0 15 rfl) rfl oc56 rfl (Nat.le_of_ble_eq_true rfl) (am_lifti (Nat.le_of_ble_eq_true rfl) (e_Mo_isForm (r1 := h 57 2) (rfl) ?_))
      obtain ⟨s4, H⟩ := H
      refine ⟨s4, ?_⟩
      refine ⟨fun c5 => ?_, fun c5 => ?_⟩
      · replace H := H.1 c5
        refine x_if_ne_t (q166c0 16 rfl) (by decide) ?_
        refine x_aload_n (q166c0 21 rfl) rfl ?_
        refine x_getr (q166c0 22 rfl) fd56_0 ?_
        refine x_iconst (q166c0 23 rfl) ?_
        refine x_iaload (q166c0 24 rfl) (al57 _) rfl (ag_l rfl rfl (rfl)) (by decide) ?_
        refine x_bipush (q166c0 25 rfl) ?_
        refine x_icmp_ne (q166c0 26 rfl) (fun c6 => ?_) (fun c6 => ?_)
        · replace H := H.1 c6
          refine x_aload_n (q166c0 31 rfl) rfl ?_
          obtain ⟨h7, w8, H⟩ := H
          refine x_cvv (q166c0 32 rfl) rfl oc56 rfl (Nat.le_of_ble_eq_true rfl) ⟨h7, w8, ?_⟩
          obtain ⟨⟨s9, s10, s11, s12, s13, s14, s15, s16, s17, s18, s19, s20⟩, H⟩ := H
          refine x_aload_n (q166c0 33 rfl) rfl ?_
          refine x_getr (q166c0 34 rfl) fd56_0 ?_
          refine x_iconst (q166c0 35 rfl) ?_
          refine x_iaload (q166c0 36 rfl) (al57 _) rfl (ag_l rfl rfl (rfl)) (by decide) ?_
          refine x_istore (q166c0 37 rfl) ⟨Nat.le_of_ble_eq_true rfl, trivial⟩ ?_
          refine x_sipush (q166c0 38 rfl) ?_
          refine x_iconst (q166c0 39 rfl) ?_
          refine x_iload (q166c0 40 rfl) rfl ?_
          refine x_imul (q166c0 41 rfl) s9 ?_
          refine x_iadd (q166c0 42 rfl) s10 ?_
          refine x_istore (q166c0 43 rfl) ⟨Nat.le_of_ble_eq_true rfl, trivial⟩ ?_
          refine x_aload_n (q166c0 44 rfl) rfl ?_
          refine x_getr (q166c0 45 rfl) fd56_0 ?_
          refine x_iconst (q166c0 46 rfl) ?_
          refine x_dup2 (q166c0 47 rfl) ⟨trivial, trivial⟩ ?_
          refine x_iaload (q166c0 48 rfl) (al57 _) rfl (ag_l rfl rfl (rfl)) (by decide) ?_
          refine x_iconst (q166c0 49 rfl) ?_
          refine x_iadd (q166c0 50 rfl) s11 ?_
          refine x_iastore (q166c0 51 rfl) (al57 _) rfl (Nat.le_of_ble_eq_true rfl) (by decide) (j := 3) rfl ?_
          refine x_aload_n (q166c0 52 rfl) rfl ?_
          refine x_getr (q166c0 53 rfl) fd56_0 ?_
          refine x_iload (q166c0 54 rfl) rfl ?_
          refine x_iload_n (q166c0 55 rfl) rfl ?_
          refine x_iastore (q166c0 56 rfl) (al57 _) rfl (Nat.le_of_ble_eq_true rfl) s12 (j := 520 + 5 * h7 57 3) rfl ?_
          refine x_aload_n (q166c0 57 rfl) rfl ?_
          refine x_getr (q166c0 58 rfl) fd56_0 ?_
          refine x_iload (q166c0 59 rfl) rfl ?_
          refine x_iconst (q166c1 0 rfl) ?_
          refine x_iadd (q166c1 1 rfl) s13 ?_
          refine x_iload_n (q166c1 2 rfl) rfl ?_
          refine x_iastore (q166c1 3 rfl) (al57 _) rfl (Nat.le_of_ble_eq_true rfl) s14 (j := 521 + 5 * h7 57 3) (by omega) ?_
          refine x_aload_n (q166c1 4 rfl) rfl ?_
          refine x_getr (q166c1 5 rfl) fd56_0 ?_
          refine x_iload (q166c1 6 rfl) rfl ?_
          refine x_iconst (q166c1 7 rfl) ?_
          refine x_iadd (q166c1 8 rfl) s15 ?_
          refine x_iload_n (q166c1 9 rfl) rfl ?_
          refine x_iastore (q166c1 10 rfl) (al57 _) rfl (Nat.le_of_ble_eq_true rfl) s16 (j := 522 + 5 * h7 57 3) (by omega) ?_
          refine x_aload_n (q166c1 11 rfl) rfl ?_
          refine x_getr (q166c1 12 rfl) fd56_0 ?_
          refine x_iload (q166c1 13 rfl) rfl ?_
          refine x_iconst (q166c1 14 rfl) ?_
          refine x_iadd (q166c1 15 rfl) s17 ?_
          refine x_aload_n (q166c1 16 rfl) rfl ?_
          refine x_getr (q166c1 17 rfl) fd56_0 ?_
          refine x_iconst (q166c1 18 rfl) ?_
          refine x_iaload (q166c1 19 rfl) (al57 _) rfl (ag_l rfl rfl (up_q (up_q (up_q (up_i (by decide) (rfl)))))) (by decide) ?_
          refine x_iastore (q166c1 20 rfl) (al57 _) rfl (Nat.le_of_ble_eq_true rfl) s18 (j := 523 + 5 * h7 57 3) (by omega) ?_
          refine x_aload_n (q166c1 21 rfl) rfl ?_
          refine x_getr (q166c1 22 rfl) fd56_0 ?_
          refine x_iload (q166c1 23 rfl) rfl ?_
          refine x_iconst (q166c1 24 rfl) ?_
          refine x_iadd (q166c1 25 rfl) s19 ?_
          refine x_iconst (q166c1 26 rfl) ?_
          refine x_iastore (q166c1 27 rfl) (al57 _) rfl (Nat.le_of_ble_eq_true rfl) s20 (j := 524 + 5 * h7 57 3) (by omega) ?_
          refine x_iload (q166c1 28 rfl) rfl ?_
          exact x_ireti (q166c1 29 rfl) zb166 H
        · replace H := H.2 c6
          refine x_aload_n (q166c0 27 rfl) rfl ?_
          refine x_ldc (q166c0 28 rfl) ?_
          refine x_cvi (q166c0 29 rfl) rfl oc56 rfl (Nat.le_of_ble_eq_true rfl) (am_lifti (Nat.le_of_ble_eq_true rfl) (e_Mo_finds (r1 := h 56 3) (rfl) ?_))
          obtain ⟨s21, H⟩ := H
          refine ⟨s21, ?_⟩
          exact x_ireti (q166c0 30 rfl) zb166 H
      · replace H := H.2 c5
        refine x_if_ne_f (q166c0 16 rfl) (by decide) ?_
        refine x_aload_n (q166c0 17 rfl) rfl ?_
        refine x_ldc (q166c0 18 rfl) ?_
        refine x_cvi (q166c0 19 rfl) rfl oc56 rfl (Nat.le_of_ble_eq_true rfl) (am_lifti (Nat.le_of_ble_eq_true rfl) (e_Mo_finds (r1 := h 56 3) (rfl) ?_))
        obtain ⟨s22, H⟩ := H
        refine ⟨s22, ?_⟩
        exact x_ireti (q166c0 20 rfl) zb166 H
    · replace H := H.2 c3
      refine x_if_eq_t (q166c0 12 rfl) (by decide) ?_
      refine x_aload_n (q166c0 17 rfl) rfl ?_
      refine x_ldc (q166c0 18 rfl) ?_
      refine x_cvi (q166c0 19 rfl) rfl oc56 rfl (Nat.le_of_ble_eq_true rfl) (am_lifti (Nat.le_of_ble_eq_true rfl) (e_Mo_finds (r1 := h 56 3) (rfl) ?_))
      obtain ⟨s23, H⟩ := H
      refine ⟨s23, ?_⟩
      exact x_ireti (q166c0 20 rfl) zb166 H
  · replace H := H.2 c2
    refine x_if_eq_t (q166c0 9 rfl) (by decide) ?_
    refine x_aload_n (q166c0 17 rfl) rfl ?_
    refine x_ldc (q166c0 18 rfl) ?_
    refine x_cvi (q166c0 19 rfl) rfl oc56 rfl (Nat.le_of_ble_eq_true rfl) (am_lifti (Nat.le_of_ble_eq_true rfl) (e_Mo_finds (r1 := h 56 3) (rfl) ?_))
    obtain ⟨s24, H⟩ := H
    refine ⟨s24, ?_⟩
    exact x_ireti (q166c0 20 rfl) zb166 H
theorem e_Mo_settle {h : am_H} {x1 : Int} {P : am_H → Prop} (H : am_x (am_cd 2) 167 (am_qv P) 0 2 [some (.inr (.inr 56)), some (.inl x1), some (.inl 0), none, none, none, none] [] h) : ∃ h1, am_cd 3 167 [.inr (.inr 56), .inl x1] h none h1 ∧ P h1 := by
  refine am_outv (d := 2) (ls := [some (.inr (.inr 56)), some (.inl x1), none, none, none, none, none]) rfl ab167 ml167 (Nat.le_of_ble_eq_true rfl) np167 rfl ?_
  refine x_iconst (q167c0 0 rfl) ?_
  refine x_istore_n (q167c0 1 rfl) ⟨Nat.le_of_ble_eq_true rfl, trivial⟩ ?_
  exact H
theorem g_Mo_settle_2 {h : am_H} {x1 : Int} {x2 : Int} {P : am_H → Prop} (H : (120 ≤ x2 → am_x (am_cd 2) 167 (am_qv P) 0 23 [some (.inr (.inr 56)), some (.inl x1), some (.inl 0), none, none, none, none] [] h) ∧ (x2 < 120 → (((0 ≤ x2 ∧ x2 < 120) ∧ am_ok (x2 + 1)) ∧ am_x (am_cd 2) 167 (am_qv P) 0 2 [some (.inr (.inr 56)), some (.inl x1), some (.inl (x2 + 1)), none, none, none, none] [] (am_up h 61 x2 (-1))))) : am_x (am_cd 2) 167 (am_qv P) 0 2 [some (.inr (.inr 56)), some (.inl x1), some (.inl x2), none, none, none, none] [] h := by
  refine x_iload_n (q167c0 2 rfl) rfl ?_
  refine x_bipush (q167c0 3 rfl) ?_
  refine x_icmp_ge (q167c0 4 rfl) (fun c1 => ?_) (fun c1 => ?_)
  · replace H := H.1 c1
    refine x_iconst (q167c0 12 rfl) ?_
    refine x_istore_n (q167c0 13 rfl) ⟨Nat.le_of_ble_eq_true rfl, trivial⟩ ?_
    exact H
  · replace H := H.2 c1
    obtain ⟨⟨s2, s3⟩, H⟩ := H
    refine x_aload_n (q167c0 5 rfl) rfl ?_
    refine x_getr (q167c0 6 rfl) fd56_6 ?_
    refine x_iload_n (q167c0 7 rfl) rfl ?_
    refine x_iconst (q167c0 8 rfl) ?_
    refine x_iastore (q167c0 9 rfl) (al61 _) rfl (Nat.le_of_ble_eq_true rfl) s2 (j := x2) rfl ?_
    refine x_iinc (q167c0 10 rfl) rfl ⟨Nat.le_of_ble_eq_true rfl, trivial⟩ s3 ?_
    refine x_goto (q167c0 11 rfl) ?_
    exact H
theorem g_Mo_settle_23 {h : am_H} {x1 : Int} {x2 : Int} {P : am_H → Prop} (H : (h 57 3 ≤ x2 → am_x (am_cd 2) 167 (am_qv P) 0 108 [some (.inr (.inr 56)), none, some (.inl 0), none, none, none, none] [] h) ∧ (x2 < h 57 3 → ((am_ok (5 * x2) ∧ am_ok (520 + 5 * x2) ∧ am_ok (520 + 5 * x2 + 3) ∧ (0 ≤ 520 + 5 * x2 + 3 ∧ 520 + 5 * x2 + 3 < 820)) ∧ ((x1 < h 57 (523 + 5 * x2) → ((am_ok (x2 + 1)) ∧ am_x (am_cd 2) 167 (am_qv P) 0 23 [some (.inr (.inr 56)), some (.inl x1), some (.inl (x2 + 1)), none, none, none, none] [] h)) ∧ (h 57 (523 + 5 * x2) ≤ x1 → ((am_ok (520 + 5 * x2 + 4) ∧ (0 ≤ 520 + 5 * x2 + 4 ∧ 520 + 5 * x2 + 4 < 820)) ∧ (((0 ≤ h 57 (524 + 5 * x2) ∧ h 57 (524 + 5 * x2) ≤ x1) → ((am_ok (x2 + 1)) ∧ am_x (am_cd 2) 167 (am_qv P) 0 23 [some (.inr (.inr 56)), some (.inl x1), some (.inl (x2 + 1)), none, none, none, none] [] h)) ∧ ((¬(0 ≤ h 57 (524 + 5 * x2) ∧ h 57 (524 + 5 * x2) ≤ x1)) → (((0 ≤ 520 + 5 * x2 ∧ 520 + 5 * x2 < 820) ∧ am_ok (6 * h 57 (520 + 5 * x2)) ∧ am_ok (520 + 5 * x2 + 1) ∧ (0 ≤ 520 + 5 * x2 + 1 ∧ 520 + 5 * x2 + 1 < 820) ∧ am_ok (6 * h 57 (520 + 5 * x2) + h 57 (521 + 5 * x2)) ∧ am_ok (520 + 5 * x2 + 2) ∧ (0 ≤ 520 + 5 * x2 + 2 ∧ 520 + 5 * x2 + 2 < 820) ∧ (0 ≤ 6 * h 57 (520 + 5 * x2) + h 57 (521 + 5 * x2) ∧ 6 * h 57 (520 + 5 * x2) + h 57 (521 + 5 * x2) < 120) ∧ am_ok (x2 + 1)) ∧ am_x (am_cd 2) 167 (am_qv P) 0 23 [some (.inr (.inr 56)), some (.inl x1), some (.inl (x2 + 1)), none, none, none, none] [] (am_up h 61 (6 * h 57 (520 + 5 * x2) + h 57 (521 + 5 * x2)) (h 57 (522 + 5 * x2)))))))))))) : am_x (am_cd 2) 167 (am_qv P) 0 23 [some (.inr (.inr 56)), some (.inl x1), some (.inl x2), none, none, none, none] [] h := by
  refine x_iload_n (q167c0 14 rfl) rfl ?_
  refine x_aload_n (q167c0 15 rfl) rfl ?_
  refine x_getr (q167c0 16 rfl) fd56_0 ?_
  refine x_iconst (q167c0 17 rfl) ?_
  refine x_iaload (q167c0 18 rfl) (al57 _) rfl (ag_l rfl rfl (rfl)) (by decide) ?_
  refine x_icmp_ge (q167c0 19 rfl) (fun c1 => ?_) (fun c1 => ?_)
  · replace H := H.1 c1
    refine x_iconst (q167c1 8 rfl) ?_
    refine x_istore_n (q167c1 9 rfl) ⟨Nat.le_of_ble_eq_true rfl, trivial⟩ ?_
    exact am_x_weak (ls' := [some (.inr (.inr 56)), some (.inl x1), some (.inl 0), none, none, none, none]) (lle_c (lle_d trivial (lle_c (lle_c (lle_c (lle_c (lle_c (lle_nil)))))))) H
  · replace H := H.2 c1
    obtain ⟨⟨s2, s3, s4, s5⟩, H⟩ := H
    refine x_sipush (q167c0 20 rfl) ?_
    refine x_iconst (q167c0 21 rfl) ?_
    refine x_iload_n (q167c0 22 rfl) rfl ?_
    refine x_imul (q167c0 23 rfl) s2 ?_
    refine x_iadd (q167c0 24 rfl) s3 ?_
    refine x_istore_n (q167c0 25 rfl) ⟨Nat.le_of_ble_eq_true rfl, trivial⟩ ?_
    refine x_aload_n (q167c0 26 rfl) rfl ?_
    refine x_getr (q167c0 27 rfl) fd56_0 ?_
    refine x_iload_n (q167c0 28 rfl) rfl ?_
    refine x_iconst (q167c0 29 rfl) ?_
    refine x_iadd (q167c0 30 rfl) s4 ?_
    refine x_iaload (q167c0 31 rfl) (al57 _) rfl (ag_l (j1 := 523 + 5 * x2) rfl (by omega) (rfl)) s5 ?_
    refine x_iload_n (q167c0 32 rfl) rfl ?_
    refine x_icmp_gt (q167c0 33 rfl) (fun c6 => ?_) (fun c6 => ?_)
    · replace H := H.1 c6
      obtain ⟨s7, H⟩ := H
      refine x_iinc (q167c1 6 rfl) rfl ⟨Nat.le_of_ble_eq_true rfl, trivial⟩ s7 ?_
      refine x_goto (q167c1 7 rfl) ?_
      exact am_x_weak (ls' := [some (.inr (.inr 56)), some (.inl x1), some (.inl (x2 + 1)), some (.inl (520 + 5 * x2)), none, none, none]) (lle_c (lle_c (lle_c (lle_d trivial (lle_c (lle_c (lle_c (lle_nil)))))))) H
    · replace H := H.2 c6
      obtain ⟨⟨s8, s9⟩, H⟩ := H
      refine x_aload_n (q167c0 34 rfl) rfl ?_
      refine x_getr (q167c0 35 rfl) fd56_0 ?_
      refine x_iload_n (q167c0 36 rfl) rfl ?_
      refine x_iconst (q167c0 37 rfl) ?_
      refine x_iadd (q167c0 38 rfl) s8 ?_
      refine x_iaload (q167c0 39 rfl) (al57 _) rfl (ag_l (j1 := 524 + 5 * x2) rfl (by omega) (rfl)) s9 ?_
      refine x_iconst (q167c0 40 rfl) ?_
      refine x_iload_n (q167c0 41 rfl) rfl ?_
      refine x_csi (q167c0 42 rfl) rfl rfl rfl (Nat.le_of_ble_eq_true rfl) (am_lifti (Nat.le_of_ble_eq_true rfl) (e_Mo_in   ?_))
      refine ⟨fun c10 => ?_, fun c10 => ?_⟩
      · replace H := H.1 c10
        obtain ⟨s11, H⟩ := H
        refine x_if_ne_t (q167c0 43 rfl) (by decide) ?_
        refine x_iinc (q167c1 6 rfl) rfl ⟨Nat.le_of_ble_eq_true rfl, trivial⟩ s11 ?_
        refine x_goto (q167c1 7 rfl) ?_
        exact am_x_weak (ls' := [some (.inr (.inr 56)), some (.inl x1), some (.inl (x2 + 1)), some (.inl (520 + 5 * x2)), none, none, none]) (lle_c (lle_c (lle_c (lle_d trivial (lle_c (lle_c (lle_c (lle_nil)))))))) H
      · replace H := H.2 c10
        obtain ⟨⟨s12, s13, s14, s15, s16, s17, s18, s19, s20⟩, H⟩ := H
        refine x_if_ne_f (q167c0 43 rfl) (by decide) ?_
        refine x_aload_n (q167c0 44 rfl) rfl ?_
        refine x_getr (q167c0 45 rfl) fd56_6 ?_
        refine x_bipush (q167c0 46 rfl) ?_
        refine x_aload_n (q167c0 47 rfl) rfl ?_
        refine x_getr (q167c0 48 rfl) fd56_0 ?_
        refine x_iload_n (q167c0 49 rfl) rfl ?_
        refine x_iaload (q167c0 50 rfl) (al57 _) rfl (ag_l rfl rfl (rfl)) s12 ?_
        refine x_imul (q167c0 51 rfl) s13 ?_
        refine x_aload_n (q167c0 52 rfl) rfl ?_
        refine x_getr (q167c0 53 rfl) fd56_0 ?_
        refine x_iload_n (q167c0 54 rfl) rfl ?_
        refine x_iconst (q167c0 55 rfl) ?_
        refine x_iadd (q167c0 56 rfl) s14 ?_
        refine x_iaload (q167c0 57 rfl) (al57 _) rfl (ag_l (j1 := 521 + 5 * x2) rfl (by omega) (rfl)) s15 ?_
        refine x_iadd (q167c0 58 rfl) s16 ?_
        refine x_aload_n (q167c0 59 rfl) rfl ?_
        refine x_getr (q167c1 0 rfl) fd56_0 ?_
        refine x_iload_n (q167c1 1 rfl) rfl ?_
        refine x_iconst (q167c1 2 rfl) ?_
        refine x_iadd (q167c1 3 rfl) s17 ?_
        refine x_iaload (q167c1 4 rfl) (al57 _) rfl (ag_l (j1 := 522 + 5 * x2) rfl (by omega) (rfl)) s18 ?_
        refine x_iastore (q167c1 5 rfl) (al61 _) rfl (Nat.le_of_ble_eq_true rfl) s19 (j := 6 * h 57 (520 + 5 * x2) + h 57 (521 + 5 * x2)) rfl ?_
        refine x_iinc (q167c1 6 rfl) rfl ⟨Nat.le_of_ble_eq_true rfl, trivial⟩ s20 ?_
        refine x_goto (q167c1 7 rfl) ?_
        exact am_x_weak (ls' := [some (.inr (.inr 56)), some (.inl x1), some (.inl (x2 + 1)), some (.inl (520 + 5 * x2)), none, none, none]) (lle_c (lle_c (lle_c (lle_d trivial (lle_c (lle_c (lle_c (lle_nil)))))))) H
theorem g_Mo_settle_108 {h : am_H} {x2 : Int} {P : am_H → Prop} (H : (h 57 0 ≤ x2 → P h) ∧ (x2 < h 57 0 → am_x (am_cd 2) 167 (am_qv P) 0 120 [some (.inr (.inr 56)), none, some (.inl x2), some (.inl 0), none, none, none] [] h)) : am_x (am_cd 2) 167 (am_qv P) 0 108 [some (.inr (.inr 56)), none, some (.inl x2), none, none, none, none] [] h := by
  refine x_iload_n (q167c1 10 rfl) rfl ?_
  refine x_aload_n (q167c1 11 rfl) rfl ?_
  refine x_getr (q167c1 12 rfl) fd56_0 ?_
  refine x_iconst (q167c1 13 rfl) ?_
  refine x_iaload (q167c1 14 rfl) (al57 _) rfl (ag_l rfl rfl (rfl)) (by decide) ?_
  refine x_icmp_ge (q167c1 15 rfl) (fun c1 => ?_) (fun c1 => ?_)
  · replace H := H.1 c1
    exact x_ret (q167c2 7 rfl) H
  · replace H := H.2 c1
    refine x_iconst (q167c1 16 rfl) ?_
    refine x_istore_n (q167c1 17 rfl) ⟨Nat.le_of_ble_eq_true rfl, trivial⟩ ?_
    exact H
theorem g_Mo_settle_120 {h : am_H} {x2 : Int} {x3 : Int} {P : am_H → Prop} (H : (6 ≤ x3 → ((am_ok (x2 + 1)) ∧ am_x (am_cd 2) 167 (am_qv P) 0 108 [some (.inr (.inr 56)), none, some (.inl (x2 + 1)), none, none, none, none] [] h)) ∧ (x3 < 6 → ((am_ok (6 * x2) ∧ am_ok (6 * x2 + x3) ∧ (0 ≤ 6 * x2 + x3 ∧ 6 * x2 + x3 < 72)) ∧ am_x (am_cd 2) 167 (am_qv P) 0 144 [some (.inr (.inr 56)), none, some (.inl x2), some (.inl x3), some (.inl 0), some (.inl 0), none] [] (am_up h 62 (6 * x2 + x3) (-1))))) : am_x (am_cd 2) 167 (am_qv P) 0 120 [some (.inr (.inr 56)), none, some (.inl x2), some (.inl x3), none, none, none] [] h := by
  refine x_iload_n (q167c1 18 rfl) rfl ?_
  refine x_bipush (q167c1 19 rfl) ?_
  refine x_icmp_ge (q167c1 20 rfl) (fun c1 => ?_) (fun c1 => ?_)
  · replace H := H.1 c1
    obtain ⟨s2, H⟩ := H
    refine x_iinc (q167c2 5 rfl) rfl ⟨Nat.le_of_ble_eq_true rfl, trivial⟩ s2 ?_
    refine x_goto (q167c2 6 rfl) ?_
    exact am_x_weak (ls' := [some (.inr (.inr 56)), none, some (.inl (x2 + 1)), some (.inl x3), none, none, none]) (lle_c (lle_c (lle_c (lle_d trivial (lle_c (lle_c (lle_c (lle_nil)))))))) H
  · replace H := H.2 c1
    obtain ⟨⟨s3, s4, s5⟩, H⟩ := H
    refine x_iconst (q167c1 21 rfl) ?_
    refine x_istore (q167c1 22 rfl) ⟨Nat.le_of_ble_eq_true rfl, trivial⟩ ?_
    refine x_aload_n (q167c1 23 rfl) rfl ?_
    refine x_getr (q167c1 24 rfl) fd56_7 ?_
    refine x_bipush (q167c1 25 rfl) ?_
    refine x_iload_n (q167c1 26 rfl) rfl ?_
    refine x_imul (q167c1 27 rfl) s3 ?_
    refine x_iload_n (q167c1 28 rfl) rfl ?_
    refine x_iadd (q167c1 29 rfl) s4 ?_
    refine x_iconst (q167c1 30 rfl) ?_
    refine x_iastore (q167c1 31 rfl) (al62 _) rfl (Nat.le_of_ble_eq_true rfl) s5 (j := 6 * x2 + x3) rfl ?_
    refine x_iconst (q167c1 32 rfl) ?_
    refine x_istore (q167c1 33 rfl) ⟨Nat.le_of_ble_eq_true rfl, trivial⟩ ?_
    exact H
theorem g_Mo_settle_144 {h : am_H} {x2 : Int} {x3 : Int} {x4 : Int} {x5 : Int} {P : am_H → Prop} (H : (h 57 2 ≤ x5 → ((am_ok (x3 + 1)) ∧ am_x (am_cd 2) 167 (am_qv P) 0 120 [some (.inr (.inr 56)), none, some (.inl x2), some (.inl (x3 + 1)), none, none, none] [] h)) ∧ (x5 < h 57 2 → (∃ a4 h3, am_cd 2 127 [.inr (.inr 56), .inl x2, .inl x3, .inl x5] h (some (.inl a4)) h3 ∧ ((x4 < a4 → ((am_ok (6 * x2) ∧ am_ok (6 * x2 + x3) ∧ (0 ≤ 6 * x2 + x3 ∧ 6 * x2 + x3 < 72) ∧ am_ok (x5 + 1)) ∧ am_x (am_cd 2) 167 (am_qv P) 0 144 [some (.inr (.inr 56)), none, some (.inl x2), some (.inl x3), some (.inl a4), some (.inl (x5 + 1)), none] [] (am_up h3 62 (6 * x2 + x3) x5))) ∧ (a4 ≤ x4 → ((am_ok (x5 + 1)) ∧ am_x (am_cd 2) 167 (am_qv P) 0 144 [some (.inr (.inr 56)), none, some (.inl x2), some (.inl x3), some (.inl x4), some (.inl (x5 + 1)), none] [] h3)))))) : am_x (am_cd 2) 167 (am_qv P) 0 144 [some (.inr (.inr 56)), none, some (.inl x2), some (.inl x3), some (.inl x4), some (.inl x5), none] [] h := by
  refine x_iload (q167c1 34 rfl) rfl ?_
  refine x_aload_n (q167c1 35 rfl) rfl ?_
  refine x_getr (q167c1 36 rfl) fd56_0 ?_
  refine x_iconst (q167c1 37 rfl) ?_
  refine x_iaload (q167c1 38 rfl) (al57 _) rfl (ag_l rfl rfl (rfl)) (by decide) ?_
  refine x_icmp_ge (q167c1 39 rfl) (fun c1 => ?_) (fun c1 => ?_)
  · replace H := H.1 c1
    obtain ⟨s2, H⟩ := H
    refine x_iinc (q167c2 3 rfl) rfl ⟨Nat.le_of_ble_eq_true rfl, trivial⟩ s2 ?_
    refine x_goto (q167c2 4 rfl) ?_
    exact am_x_weak (ls' := [some (.inr (.inr 56)), none, some (.inl x2), some (.inl (x3 + 1)), some (.inl x4), some (.inl x5), none]) (lle_c (lle_c (lle_c (lle_c (lle_d trivial (lle_d trivial (lle_c (lle_nil)))))))) H
  · replace H := H.2 c1
    refine x_aload_n (q167c1 40 rfl) rfl ?_
    refine x_iload_n (q167c1 41 rfl) rfl ?_
    refine x_iload_n (q167c1 42 rfl) rfl ?_
    refine x_iload (q167c1 43 rfl) rfl ?_
    obtain ⟨a4, h3, w5, H⟩ := H
    refine x_cvi (q167c1 44 rfl) rfl oc56 rfl (Nat.le_of_ble_eq_true rfl) ⟨a4, h3, w5, ?_⟩
    refine x_istore (q167c1 45 rfl) ⟨Nat.le_of_ble_eq_true rfl, trivial⟩ ?_
    refine x_iload (q167c1 46 rfl) rfl ?_
    refine x_iload (q167c1 47 rfl) rfl ?_
    refine x_icmp_gt (q167c1 48 rfl) (fun c6 => ?_) (fun c6 => ?_)
    · replace H := H.1 c6
      obtain ⟨⟨s7, s8, s9, s10⟩, H⟩ := H
      refine x_iload (q167c1 50 rfl) rfl ?_
      refine x_istore (q167c1 51 rfl) ⟨Nat.le_of_ble_eq_true rfl, trivial⟩ ?_
      refine x_aload_n (q167c1 52 rfl) rfl ?_
      refine x_getr (q167c1 53 rfl) fd56_7 ?_
      refine x_bipush (q167c1 54 rfl) ?_
      refine x_iload_n (q167c1 55 rfl) rfl ?_
      refine x_imul (q167c1 56 rfl) s7 ?_
      refine x_iload_n (q167c1 57 rfl) rfl ?_
      refine x_iadd (q167c1 58 rfl) s8 ?_
      refine x_iload (q167c1 59 rfl) rfl ?_
      refine x_iastore (q167c2 0 rfl) (al62 _) rfl (Nat.le_of_ble_eq_true rfl) s9 (j := 6 * x2 + x3) rfl ?_
      refine x_iinc (q167c2 1 rfl) rfl ⟨Nat.le_of_ble_eq_true rfl, trivial⟩ s10 ?_
      refine x_goto (q167c2 2 rfl) ?_
      exact am_x_weak (ls' := [some (.inr (.inr 56)), none, some (.inl x2), some (.inl x3), some (.inl a4), some (.inl (x5 + 1)), some (.inl a4)]) (lle_c (lle_c (lle_c (lle_c (lle_c (lle_c (lle_d trivial (lle_nil)))))))) H
    · replace H := H.2 c6
      obtain ⟨s11, H⟩ := H
      refine x_goto (q167c1 49 rfl) ?_
      refine x_iinc (q167c2 1 rfl) rfl ⟨Nat.le_of_ble_eq_true rfl, trivial⟩ s11 ?_
      refine x_goto (q167c2 2 rfl) ?_
      exact am_x_weak (ls' := [some (.inr (.inr 56)), none, some (.inl x2), some (.inl x3), some (.inl x4), some (.inl (x5 + 1)), some (.inl a4)]) (lle_c (lle_c (lle_c (lle_c (lle_c (lle_c (lle_d trivial (lle_nil)))))))) H
theorem e_Mo_reads {h : am_H} {x1 : Int} {P : Int → am_H → Prop} (H : (h 56 14 ≤ h 56 15 → ((x1 = 12 → P 0 h) ∧ (x1 ≠ 12 → (((97 ≤ (-1) ∧ (-1) ≤ 122) → ((am_ok (h 56 15 + 1) ∧ am_ok (4 * x1) ∧ (0 ≤ 4 * x1 ∧ 4 * x1 < 48)) ∧ (∃ a8 h7, am_cd 2 81 [.inr (.inr 56), .inl 62] (am_up (am_up h 56 15 (h 56 15 + 1)) 66 (4 * x1) ((-1) - 97)) (some (.inl a8)) h7 ∧ ((a8 ≠ 0 → ((am_ok (4 * x1 + 1)) ∧ (∃ a13 h12, am_cd 2 129 [.inr (.inr 56), .inl 0] h7 (some (.inl a13)) h12 ∧ ((0 ≤ 4 * x1 + 1 ∧ 4 * x1 + 1 < 48) ∧ ((a13 ≠ (-2) → ((am_ok (4 * x1 + 2) ∧ (0 ≤ 4 * x1 + 2 ∧ 4 * x1 + 2 < 48) ∧ am_ok (4 * x1 + 3) ∧ (0 ≤ 4 * x1 + 3 ∧ 4 * x1 + 3 < 48)) ∧ (∃ a22 h21, am_cd 2 81 [.inr (.inr 56), .inl 47] (am_up (am_up (am_up h12 66 (1 + 4 * x1) a13) 66 (2 + 4 * x1) 27) 66 (3 + 4 * x1) 27) (some (.inl a22)) h21 ∧ ((a22 = 0 → (∃ a26 h25, am_cd 2 81 [.inr (.inr 56), .inl 59] h21 (some (.inl a26)) h25 ∧ ((a26 = 0 ∨ a26 = 1) ∧ P a26 h25))) ∧ (a22 ≠ 0 → (∃ a30 h29, am_cd 2 129 [.inr (.inr 56), .inl 1] h21 (some (.inl a30)) h29 ∧ ((a30 = (-2) → P 0 (am_up h29 66 (2 + 4 * x1) a30)) ∧ (a30 ≠ (-2) → (∃ a34 h33, am_cd 2 81 [.inr (.inr 56), .inl 95] (am_up h29 66 (2 + 4 * x1) a30) (some (.inl a34)) h33 ∧ ((a34 ≠ 0 → (∃ a38 h37, am_cd 2 129 [.inr (.inr 56), .inl 1] h33 (some (.inl a38)) h37 ∧ ((a38 ≠ (-2) → (∃ a42 h41, am_cd 2 81 [.inr (.inr 56), .inl 59] (am_up h37 66 (3 + 4 * x1) a38) (some (.inl a42)) h41 ∧ ((a42 = 0 ∨ a42 = 1) ∧ P a42 h41))) ∧ (a38 = (-2) → P 0 (am_up h37 66 (3 + 4 * x1) a38))))) ∧ (a34 = 0 → P 0 h33))))))))))) ∧ (a13 = (-2) → P 0 (am_up h12 66 (1 + 4 * x1) a13))))))) ∧ (a8 = 0 → P 0 h7))))) ∧ ((¬(97 ≤ (-1) ∧ (-1) ≤ 122)) → P 0 h))))) ∧ (h 56 15 < h 56 14 → ((0 ≤ h 56 15 ∧ h 56 15 < 80) ∧ ((x1 = 12 → P 0 h) ∧ (x1 ≠ 12 → (((97 ≤ h 63 (h 56 15) ∧ h 63 (h 56 15) ≤ 122) → ((am_ok (h 56 15 + 1) ∧ am_ok (4 * x1) ∧ am_ok (h 63 (h 56 15) - 97) ∧ (0 ≤ 4 * x1 ∧ 4 * x1 < 48)) ∧ (∃ a53 h52, am_cd 2 81 [.inr (.inr 56), .inl 62] (am_up (am_up h 56 15 (h 56 15 + 1)) 66 (4 * x1) (h 63 (h 56 15) - 97)) (some (.inl a53)) h52 ∧ ((a53 ≠ 0 → ((am_ok (4 * x1 + 1)) ∧ (∃ a58 h57, am_cd 2 129 [.inr (.inr 56), .inl 0] h52 (some (.inl a58)) h57 ∧ ((0 ≤ 4 * x1 + 1 ∧ 4 * x1 + 1 < 48) ∧ ((a58 ≠ (-2) → ((am_ok (4 * x1 + 2) ∧ (0 ≤ 4 * x1 + 2 ∧ 4 * x1 + 2 < 48) ∧ am_ok (4 * x1 + 3) ∧ (0 ≤ 4 * x1 + 3 ∧ 4 * x1 + 3 < 48)) ∧ (∃ a67 h66, am_cd 2 81 [.inr (.inr 56), .inl 47] (am_up (am_up (am_up h57 66 (1 + 4 * x1) a58) 66 (2 + 4 * x1) 27) 66 (3 + 4 * x1) 27) (some (.inl a67)) h66 ∧ ((a67 = 0 → (∃ a71 h70, am_cd 2 81 [.inr (.inr 56), .inl 59] h66 (some (.inl a71)) h70 ∧ ((a71 = 0 ∨ a71 = 1) ∧ P a71 h70))) ∧ (a67 ≠ 0 → (∃ a75 h74, am_cd 2 129 [.inr (.inr 56), .inl 1] h66 (some (.inl a75)) h74 ∧ ((a75 = (-2) → P 0 (am_up h74 66 (2 + 4 * x1) a75)) ∧ (a75 ≠ (-2) → (∃ a79 h78, am_cd 2 81 [.inr (.inr 56), .inl 95] (am_up h74 66 (2 + 4 * x1) a75) (some (.inl a79)) h78 ∧ ((a79 ≠ 0 → (∃ a83 h82, am_cd 2 129 [.inr (.inr 56), .inl 1] h78 (some (.inl a83)) h82 ∧ ((a83 ≠ (-2) → (∃ a87 h86, am_cd 2 81 [.inr (.inr 56), .inl 59] (am_up h82 66 (3 + 4 * x1) a83) (some (.inl a87)) h86 ∧ ((a87 = 0 ∨ a87 = 1) ∧ P a87 h86))) ∧ (a83 = (-2) → P 0 (am_up h82 66 (3 + 4 * x1) a83))))) ∧ (a79 = 0 → P 0 h78))))))))))) ∧ (a58 = (-2) → P 0 (am_up h57 66 (1 + 4 * x1) a58))))))) ∧ (a53 = 0 → P 0 h52))))) ∧ ((¬(97 ≤ h 63 (h 56 15) ∧ h 63 (h 56 15) ≤ 122)) → P 0 h))))))) : ∃ a h1, am_cd 3 168 [.inr (.inr 56), .inl x1] h (some (.inl a)) h1 ∧ P a h1 := by
  refine am_outi (d := 2) (ls := [some (.inr (.inr 56)), some (.inl x1), none]) rfl ab168 ml168 (Nat.le_of_ble_eq_true rfl) np168 rfl ?_
  refine x_aload_n (q168c0 0 rfl) rfl ?_
  refine x_getf (q168c0 1 rfl) fd56_15 (rfl) ?_
  refine x_aload_n (q168c0 2 rfl) rfl ?_
  refine x_getf (q168c0 3 rfl) fd56_14 (rfl) ?_
  refine x_icmp_ge (q168c0 4 rfl) (fun c1 => ?_) (fun c1 => ?_)
  · replace H := H.1 c1
    refine x_iconst (q168c0 11 rfl) ?_
    refine x_istore_n (q168c0 12 rfl) ⟨Nat.le_of_ble_eq_true rfl, trivial⟩ ?_
    refine x_iload_n (q168c0 13 rfl) rfl ?_
    refine x_bipush (q168c0 14 rfl) ?_
    refine x_icmp_eq (q168c0 15 rfl) (fun c2 => ?_) (fun c2 => ?_)
    · replace H := H.1 c2
      refine x_iconst (q168c0 21 rfl) ?_
      exact x_iretz (q168c0 22 rfl) (.inl rfl) H
    · replace H := H.2 c2
      refine x_iload_n (q168c0 16 rfl) rfl ?_
      refine x_bipush (q168c0 17 rfl) ?_
      refine x_bipush (q168c0 18 rfl) ?_
      refine x_csi (q168c0 19 rfl) rfl rfl rfl (Nat.le_of_ble_eq_true rfl) (am_lifti (Nat.le_of_ble_eq_true rfl) (e_Mo_in   ?_))
      refine ⟨fun c3 => ?_, fun c3 => ?_⟩
      · replace H := H.1 c3
        obtain ⟨⟨s4, s5, s6⟩, H⟩ := H
        refine x_if_ne_t (q168c0 20 rfl) (by decide) ?_
        refine x_aload_n (q168c0 23 rfl) rfl ?_
        refine x_dup (q168c0 24 rfl) trivial ?_
        refine x_getf (q168c0 25 rfl) fd56_15 (rfl) ?_
        refine x_iconst (q168c0 26 rfl) ?_
        refine x_iadd (q168c0 27 rfl) s4 ?_
        refine x_putf (q168c0 28 rfl) fd56_15 ?_
        refine x_aload_n (q168c0 29 rfl) rfl ?_
        refine x_getr (q168c0 30 rfl) fd56_11 ?_
        refine x_iconst (q168c0 31 rfl) ?_
        refine x_iload_n (q168c0 32 rfl) rfl ?_
        refine x_imul (q168c0 33 rfl) s5 ?_
        refine x_iload_n (q168c0 34 rfl) rfl ?_
        refine x_bipush (q168c0 35 rfl) ?_
        refine x_isub (q168c0 36 rfl) (by decide) ?_
        refine x_iastore (q168c0 37 rfl) (al66 _) rfl (Nat.le_of_ble_eq_true rfl) s6 (j := 4 * x1) rfl ?_
        refine x_aload_n (q168c0 38 rfl) rfl ?_
        refine x_bipush (q168c0 39 rfl) ?_
        obtain ⟨a8, h7, w9, H⟩ := H
        refine x_cvi (q168c0 40 rfl) rfl oc56 rfl (Nat.le_of_ble_eq_true rfl) ⟨a8, h7, w9, ?_⟩
        refine x_if_ne (q168c0 41 rfl) (fun c10 => ?_) (fun c10 => ?_)
        · replace H := H.1 c10
          obtain ⟨s11, H⟩ := H
          refine x_aload_n (q168c0 44 rfl) rfl ?_
          refine x_getr (q168c0 45 rfl) fd56_11 ?_
          refine x_iconst (q168c0 46 rfl) ?_
          refine x_iload_n (q168c0 47 rfl) rfl ?_
          refine x_imul (q168c0 48 rfl) s5 ?_
          refine x_iconst (q168c0 49 rfl) ?_
          refine x_iadd (q168c0 50 rfl) s11 ?_
          refine x_aload_n (q168c0 51 rfl) rfl ?_
          refine x_iconst (q168c0 52 rfl) ?_
          obtain ⟨a13, h12, w14, H⟩ := H
          refine x_cvi (q168c0 53 rfl) rfl oc56 rfl (Nat.le_of_ble_eq_true rfl) ⟨a13, h12, w14, ?_⟩
          obtain ⟨s15, H⟩ := H
          refine x_iastore (q168c0 54 rfl) (al66 _) rfl (Nat.le_of_ble_eq_true rfl) s15 (j := 1 + 4 * x1) (by omega) ?_
          refine x_aload_n (q168c0 55 rfl) rfl ?_
          refine x_getr (q168c0 56 rfl) fd56_11 ?_
          refine x_iconst (q168c0 57 rfl) ?_
          refine x_iload_n (q168c0 58 rfl) rfl ?_
          refine x_imul (q168c0 59 rfl) s5 ?_
          refine x_iconst (q168c1 0 rfl) ?_
          refine x_iadd (q168c1 1 rfl) s11 ?_
          refine x_iaload (q168c1 2 rfl) (al66 _) rfl (ag_l (j1 := 1 + 4 * x1) rfl (by omega) (up_s rfl)) s15 ?_
          refine x_bipush (q168c1 3 rfl) ?_
          refine x_icmp_ne (q168c1 4 rfl) (fun c16 => ?_) (fun c16 => ?_)
          · replace H := H.1 c16
            obtain ⟨⟨s17, s18, s19, s20⟩, H⟩ := H
            refine x_aload_n (q168c1 7 rfl) rfl ?_
            refine x_getr (q168c1 8 rfl) fd56_11 ?_
            refine x_iconst (q168c1 9 rfl) ?_
            refine x_iload_n (q168c1 10 rfl) rfl ?_
            refine x_imul (q168c1 11 rfl) s5 ?_
            refine x_iconst (q168c1 12 rfl) ?_
            refine x_iadd (q168c1 13 rfl) s17 ?_
            refine x_bipush (q168c1 14 rfl) ?_
            refine x_iastore (q168c1 15 rfl) (al66 _) rfl (Nat.le_of_ble_eq_true rfl) s18 (j := 2 + 4 * x1) (by omega) ?_
            refine x_aload_n (q168c1 16 rfl) rfl ?_
            refine x_getr (q168c1 17 rfl) fd56_11 ?_
            refine x_iconst (q168c1 18 rfl) ?_
            refine x_iload_n (q168c1 19 rfl) rfl ?_
            refine x_imul (q168c1 20 rfl) s5 ?_
            refine x_iconst (q168c1 21 rfl) ?_
            refine x_iadd (q168c1 22 rfl) s19 ?_
            refine x_bipush (q168c1 23 rfl) ?_
            refine x_iastore (q168c1 24 rfl) (al66 _) rfl (Nat.le_of_ble_eq_true rfl) s20 (j := 3 + 4 * x1) (by omega) ?_
            refine x_aload_n (q168c1 25 rfl) rfl ?_
            refine x_bipush (q168c1 26 rfl) ?_
            obtain ⟨a22, h21, w23, H⟩ := H
            refine x_cvi (q168c1 27 rfl) rfl oc56 rfl (Nat.le_of_ble_eq_true rfl) ⟨a22, h21, w23, ?_⟩
            refine x_if_eq (q168c1 28 rfl) (fun c24 => ?_) (fun c24 => ?_)
            · replace H := H.1 c24
              refine x_aload_n (q168c2 19 rfl) rfl ?_
              refine x_bipush (q168c2 20 rfl) ?_
              obtain ⟨a26, h25, w27, H⟩ := H
              refine x_cvi (q168c2 21 rfl) rfl oc56 rfl (Nat.le_of_ble_eq_true rfl) ⟨a26, h25, w27, ?_⟩
              obtain ⟨s28, H⟩ := H
              exact x_iretz (q168c2 22 rfl) s28 H
            · replace H := H.2 c24
              refine x_aload_n (q168c1 29 rfl) rfl ?_
              refine x_getr (q168c1 30 rfl) fd56_11 ?_
              refine x_iconst (q168c1 31 rfl) ?_
              refine x_iload_n (q168c1 32 rfl) rfl ?_
              refine x_imul (q168c1 33 rfl) s5 ?_
              refine x_iconst (q168c1 34 rfl) ?_
              refine x_iadd (q168c1 35 rfl) s17 ?_
              refine x_aload_n (q168c1 36 rfl) rfl ?_
              refine x_iconst (q168c1 37 rfl) ?_
              obtain ⟨a30, h29, w31, H⟩ := H
              refine x_cvi (q168c1 38 rfl) rfl oc56 rfl (Nat.le_of_ble_eq_true rfl) ⟨a30, h29, w31, ?_⟩
              refine x_iastore (q168c1 39 rfl) (al66 _) rfl (Nat.le_of_ble_eq_true rfl) s18 (j := 2 + 4 * x1) (by omega) ?_
              refine x_aload_n (q168c1 40 rfl) rfl ?_
              refine x_getr (q168c1 41 rfl) fd56_11 ?_
              refine x_iconst (q168c1 42 rfl) ?_
              refine x_iload_n (q168c1 43 rfl) rfl ?_
              refine x_imul (q168c1 44 rfl) s5 ?_
              refine x_iconst (q168c1 45 rfl) ?_
              refine x_iadd (q168c1 46 rfl) s17 ?_
              refine x_iaload (q168c1 47 rfl) (al66 _) rfl (ag_l (j1 := 2 + 4 * x1) rfl (by omega) (up_s rfl)) s18 ?_
              refine x_bipush (q168c1 48 rfl) ?_
              refine x_icmp_eq (q168c1 49 rfl) (fun c32 => ?_) (fun c32 => ?_)
              · replace H := H.1 c32
                refine x_iconst (q168c1 54 rfl) ?_
                exact x_iretz (q168c1 55 rfl) (.inl rfl) H
              · replace H := H.2 c32
                refine x_aload_n (q168c1 50 rfl) rfl ?_
                refine x_bipush (q168c1 51 rfl) ?_
                obtain ⟨a34, h33, w35, H⟩ := H
                refine x_cvi (q168c1 52 rfl) rfl oc56 rfl (Nat.le_of_ble_eq_true rfl) ⟨a34, h33, w35, ?_⟩
                refine x_if_ne (q168c1 53 rfl) (fun c36 => ?_) (fun c36 => ?_)
                · replace H := H.1 c36
                  refine x_aload_n (q168c1 56 rfl) rfl ?_
                  refine x_getr (q168c1 57 rfl) fd56_11 ?_
                  refine x_iconst (q168c1 58 rfl) ?_
                  refine x_iload_n (q168c1 59 rfl) rfl ?_
                  refine x_imul (q168c2 0 rfl) s5 ?_
                  refine x_iconst (q168c2 1 rfl) ?_
                  refine x_iadd (q168c2 2 rfl) s19 ?_
                  refine x_aload_n (q168c2 3 rfl) rfl ?_
                  refine x_iconst (q168c2 4 rfl) ?_
                  obtain ⟨a38, h37, w39, H⟩ := H
                  refine x_cvi (q168c2 5 rfl) rfl oc56 rfl (Nat.le_of_ble_eq_true rfl) ⟨a38, h37, w39, ?_⟩
                  refine x_iastore (q168c2 6 rfl) (al66 _) rfl (Nat.le_of_ble_eq_true rfl) s20 (j := 3 + 4 * x1) (by omega) ?_
                  refine x_aload_n (q168c2 7 rfl) rfl ?_
                  refine x_getr (q168c2 8 rfl) fd56_11 ?_
                  refine x_iconst (q168c2 9 rfl) ?_
                  refine x_iload_n (q168c2 10 rfl) rfl ?_
                  refine x_imul (q168c2 11 rfl) s5 ?_
                  refine x_iconst (q168c2 12 rfl) ?_
                  refine x_iadd (q168c2 13 rfl) s19 ?_
                  refine x_iaload (q168c2 14 rfl) (al66 _) rfl (ag_l (j1 := 3 + 4 * x1) rfl (by omega) (up_s rfl)) s20 ?_
                  refine x_bipush (q168c2 15 rfl) ?_
                  refine x_icmp_ne (q168c2 16 rfl) (fun c40 => ?_) (fun c40 => ?_)
                  · replace H := H.1 c40
                    refine x_aload_n (q168c2 19 rfl) rfl ?_
                    refine x_bipush (q168c2 20 rfl) ?_
                    obtain ⟨a42, h41, w43, H⟩ := H
                    refine x_cvi (q168c2 21 rfl) rfl oc56 rfl (Nat.le_of_ble_eq_true rfl) ⟨a42, h41, w43, ?_⟩
                    obtain ⟨s44, H⟩ := H
                    exact x_iretz (q168c2 22 rfl) s44 H
                  · replace H := H.2 c40
                    refine x_iconst (q168c2 17 rfl) ?_
                    exact x_iretz (q168c2 18 rfl) (.inl rfl) H
                · replace H := H.2 c36
                  refine x_iconst (q168c1 54 rfl) ?_
                  exact x_iretz (q168c1 55 rfl) (.inl rfl) H
          · replace H := H.2 c16
            refine x_iconst (q168c1 5 rfl) ?_
            exact x_iretz (q168c1 6 rfl) (.inl rfl) H
        · replace H := H.2 c10
          refine x_iconst (q168c0 42 rfl) ?_
          exact x_iretz (q168c0 43 rfl) (.inl rfl) H
      · replace H := H.2 c3
        refine x_if_ne_f (q168c0 20 rfl) (by decide) ?_
        refine x_iconst (q168c0 21 rfl) ?_
        exact x_iretz (q168c0 22 rfl) (.inl rfl) H
  · replace H := H.2 c1
    obtain ⟨s45, H⟩ := H
    refine x_aload_n (q168c0 5 rfl) rfl ?_
    refine x_getr (q168c0 6 rfl) fd56_8 ?_
    refine x_aload_n (q168c0 7 rfl) rfl ?_
    refine x_getf (q168c0 8 rfl) fd56_15 (rfl) ?_
    refine x_iaload (q168c0 9 rfl) (al63 _) rfl (ag_l rfl rfl (rfl)) s45 ?_
    refine x_goto (q168c0 10 rfl) ?_
    refine x_istore_n (q168c0 12 rfl) ⟨Nat.le_of_ble_eq_true rfl, trivial⟩ ?_
    refine x_iload_n (q168c0 13 rfl) rfl ?_
    refine x_bipush (q168c0 14 rfl) ?_
    refine x_icmp_eq (q168c0 15 rfl) (fun c46 => ?_) (fun c46 => ?_)
    · replace H := H.1 c46
      refine x_iconst (q168c0 21 rfl) ?_
      exact x_iretz (q168c0 22 rfl) (.inl rfl) H
    · replace H := H.2 c46
      refine x_iload_n (q168c0 16 rfl) rfl ?_
      refine x_bipush (q168c0 17 rfl) ?_
      refine x_bipush (q168c0 18 rfl) ?_
      refine x_csi (q168c0 19 rfl) rfl rfl rfl (Nat.le_of_ble_eq_true rfl) (am_lifti (Nat.le_of_ble_eq_true rfl) (e_Mo_in   ?_))
      refine ⟨fun c47 => ?_, fun c47 => ?_⟩
      · replace H := H.1 c47
        obtain ⟨⟨s48, s49, s50, s51⟩, H⟩ := H
        refine x_if_ne_t (q168c0 20 rfl) (by decide) ?_
        refine x_aload_n (q168c0 23 rfl) rfl ?_
        refine x_dup (q168c0 24 rfl) trivial ?_
        refine x_getf (q168c0 25 rfl) fd56_15 (rfl) ?_
        refine x_iconst (q168c0 26 rfl) ?_
        refine x_iadd (q168c0 27 rfl) s48 ?_
        refine x_putf (q168c0 28 rfl) fd56_15 ?_
        refine x_aload_n (q168c0 29 rfl) rfl ?_
        refine x_getr (q168c0 30 rfl) fd56_11 ?_
        refine x_iconst (q168c0 31 rfl) ?_
        refine x_iload_n (q168c0 32 rfl) rfl ?_
        refine x_imul (q168c0 33 rfl) s49 ?_
        refine x_iload_n (q168c0 34 rfl) rfl ?_
        refine x_bipush (q168c0 35 rfl) ?_
        refine x_isub (q168c0 36 rfl) s50 ?_
        refine x_iastore (q168c0 37 rfl) (al66 _) rfl (Nat.le_of_ble_eq_true rfl) s51 (j := 4 * x1) rfl ?_
        refine x_aload_n (q168c0 38 rfl) rfl ?_
        refine x_bipush (q168c0 39 rfl) ?_
        obtain ⟨a53, h52, w54, H⟩ := H
        refine x_cvi (q168c0 40 rfl) rfl oc56 rfl (Nat.le_of_ble_eq_true rfl) ⟨a53, h52, w54, ?_⟩
        refine x_if_ne (q168c0 41 rfl) (fun c55 => ?_) (fun c55 => ?_)
        · replace H := H.1 c55
          obtain ⟨s56, H⟩ := H
          refine x_aload_n (q168c0 44 rfl) rfl ?_
          refine x_getr (q168c0 45 rfl) fd56_11 ?_
          refine x_iconst (q168c0 46 rfl) ?_
          refine x_iload_n (q168c0 47 rfl) rfl ?_
          refine x_imul (q168c0 48 rfl) s49 ?_
          refine x_iconst (q168c0 49 rfl) ?_
          refine x_iadd (q168c0 50 rfl) s56 ?_
          refine x_aload_n (q168c0 51 rfl) rfl ?_
          refine x_iconst (q168c0 52 rfl) ?_
          obtain ⟨a58, h57, w59, H⟩ := H
          refine x_cvi (q168c0 53 rfl) rfl oc56 rfl (Nat.le_of_ble_eq_true rfl) ⟨a58, h57, w59, ?_⟩
          obtain ⟨s60, H⟩ := H
          refine x_iastore (q168c0 54 rfl) (al66 _) rfl (Nat.le_of_ble_eq_true rfl) s60 (j := 1 + 4 * x1) (by omega) ?_
          refine x_aload_n (q168c0 55 rfl) rfl ?_
          refine x_getr (q168c0 56 rfl) fd56_11 ?_
          refine x_iconst (q168c0 57 rfl) ?_
          refine x_iload_n (q168c0 58 rfl) rfl ?_
          refine x_imul (q168c0 59 rfl) s49 ?_
          refine x_iconst (q168c1 0 rfl) ?_
          refine x_iadd (q168c1 1 rfl) s56 ?_
          refine x_iaload (q168c1 2 rfl) (al66 _) rfl (ag_l (j1 := 1 + 4 * x1) rfl (by omega) (up_s rfl)) s60 ?_
          refine x_bipush (q168c1 3 rfl) ?_
          refine x_icmp_ne (q168c1 4 rfl) (fun c61 => ?_) (fun c61 => ?_)
          · replace H := H.1 c61
            obtain ⟨⟨s62, s63, s64, s65⟩, H⟩ := H
            refine x_aload_n (q168c1 7 rfl) rfl ?_
            refine x_getr (q168c1 8 rfl) fd56_11 ?_
            refine x_iconst (q168c1 9 rfl) ?_
            refine x_iload_n (q168c1 10 rfl) rfl ?_
            refine x_imul (q168c1 11 rfl) s49 ?_
            refine x_iconst (q168c1 12 rfl) ?_
            refine x_iadd (q168c1 13 rfl) s62 ?_
            refine x_bipush (q168c1 14 rfl) ?_
            refine x_iastore (q168c1 15 rfl) (al66 _) rfl (Nat.le_of_ble_eq_true rfl) s63 (j := 2 + 4 * x1) (by omega) ?_
            refine x_aload_n (q168c1 16 rfl) rfl ?_
            refine x_getr (q168c1 17 rfl) fd56_11 ?_
            refine x_iconst (q168c1 18 rfl) ?_
            refine x_iload_n (q168c1 19 rfl) rfl ?_
            refine x_imul (q168c1 20 rfl) s49 ?_
            refine x_iconst (q168c1 21 rfl) ?_
            refine x_iadd (q168c1 22 rfl) s64 ?_
            refine x_bipush (q168c1 23 rfl) ?_
            refine x_iastore (q168c1 24 rfl) (al66 _) rfl (Nat.le_of_ble_eq_true rfl) s65 (j := 3 + 4 * x1) (by omega) ?_
            refine x_aload_n (q168c1 25 rfl) rfl ?_
            refine x_bipush (q168c1 26 rfl) ?_
            obtain ⟨a67, h66, w68, H⟩ := H
            refine x_cvi (q168c1 27 rfl) rfl oc56 rfl (Nat.le_of_ble_eq_true rfl) ⟨a67, h66, w68, ?_⟩
            refine x_if_eq (q168c1 28 rfl) (fun c69 => ?_) (fun c69 => ?_)
            · replace H := H.1 c69
              refine x_aload_n (q168c2 19 rfl) rfl ?_
              refine x_bipush (q168c2 20 rfl) ?_
              obtain ⟨a71, h70, w72, H⟩ := H
              refine x_cvi (q168c2 21 rfl) rfl oc56 rfl (Nat.le_of_ble_eq_true rfl) ⟨a71, h70, w72, ?_⟩
              obtain ⟨s73, H⟩ := H
              exact x_iretz (q168c2 22 rfl) s73 H
            · replace H := H.2 c69
              refine x_aload_n (q168c1 29 rfl) rfl ?_
              refine x_getr (q168c1 30 rfl) fd56_11 ?_
              refine x_iconst (q168c1 31 rfl) ?_
              refine x_iload_n (q168c1 32 rfl) rfl ?_
              refine x_imul (q168c1 33 rfl) s49 ?_
              refine x_iconst (q168c1 34 rfl) ?_
              refine x_iadd (q168c1 35 rfl) s62 ?_
              refine x_aload_n (q168c1 36 rfl) rfl ?_
              refine x_iconst (q168c1 37 rfl) ?_
              obtain ⟨a75, h74, w76, H⟩ := H
              refine x_cvi (q168c1 38 rfl) rfl oc56 rfl (Nat.le_of_ble_eq_true rfl) ⟨a75, h74, w76, ?_⟩
              refine x_iastore (q168c1 39 rfl) (al66 _) rfl (Nat.le_of_ble_eq_true rfl) s63 (j := 2 + 4 * x1) (by omega) ?_
              refine x_aload_n (q168c1 40 rfl) rfl ?_
              refine x_getr (q168c1 41 rfl) fd56_11 ?_
              refine x_iconst (q168c1 42 rfl) ?_
              refine x_iload_n (q168c1 43 rfl) rfl ?_
              refine x_imul (q168c1 44 rfl) s49 ?_
              refine x_iconst (q168c1 45 rfl) ?_
              refine x_iadd (q168c1 46 rfl) s62 ?_
              refine x_iaload (q168c1 47 rfl) (al66 _) rfl (ag_l (j1 := 2 + 4 * x1) rfl (by omega) (up_s rfl)) s63 ?_
              refine x_bipush (q168c1 48 rfl) ?_
              refine x_icmp_eq (q168c1 49 rfl) (fun c77 => ?_) (fun c77 => ?_)
              · replace H := H.1 c77
                refine x_iconst (q168c1 54 rfl) ?_
                exact x_iretz (q168c1 55 rfl) (.inl rfl) H
              · replace H := H.2 c77
                refine x_aload_n (q168c1 50 rfl) rfl ?_
                refine x_bipush (q168c1 51 rfl) ?_
                obtain ⟨a79, h78, w80, H⟩ := H
                refine x_cvi (q168c1 52 rfl) rfl oc56 rfl (Nat.le_of_ble_eq_true rfl) ⟨a79, h78, w80, ?_⟩
                refine x_if_ne (q168c1 53 rfl) (fun c81 => ?_) (fun c81 => ?_)
                · replace H := H.1 c81
                  refine x_aload_n (q168c1 56 rfl) rfl ?_
                  refine x_getr (q168c1 57 rfl) fd56_11 ?_
                  refine x_iconst (q168c1 58 rfl) ?_
                  refine x_iload_n (q168c1 59 rfl) rfl ?_
                  refine x_imul (q168c2 0 rfl) s49 ?_
                  refine x_iconst (q168c2 1 rfl) ?_
                  refine x_iadd (q168c2 2 rfl) s64 ?_
                  refine x_aload_n (q168c2 3 rfl) rfl ?_
                  refine x_iconst (q168c2 4 rfl) ?_
                  obtain ⟨a83, h82, w84, H⟩ := H
                  refine x_cvi (q168c2 5 rfl) rfl oc56 rfl (Nat.le_of_ble_eq_true rfl) ⟨a83, h82, w84, ?_⟩
                  refine x_iastore (q168c2 6 rfl) (al66 _) rfl (Nat.le_of_ble_eq_true rfl) s65 (j := 3 + 4 * x1) (by omega) ?_
                  refine x_aload_n (q168c2 7 rfl) rfl ?_
                  refine x_getr (q168c2 8 rfl) fd56_11 ?_
                  refine x_iconst (q168c2 9 rfl) ?_
                  refine x_iload_n (q168c2 10 rfl) rfl ?_
                  refine x_imul (q168c2 11 rfl) s49 ?_
                  refine x_iconst (q168c2 12 rfl) ?_
                  refine x_iadd (q168c2 13 rfl) s64 ?_
                  refine x_iaload (q168c2 14 rfl) (al66 _) rfl (ag_l (j1 := 3 + 4 * x1) rfl (by omega) (up_s rfl)) s65 ?_
                  refine x_bipush (q168c2 15 rfl) ?_
                  refine x_icmp_ne (q168c2 16 rfl) (fun c85 => ?_) (fun c85 => ?_)
                  · replace H := H.1 c85
                    refine x_aload_n (q168c2 19 rfl) rfl ?_
                    refine x_bipush (q168c2 20 rfl) ?_
                    obtain ⟨a87, h86, w88, H⟩ := H
                    refine x_cvi (q168c2 21 rfl) rfl oc56 rfl (Nat.le_of_ble_eq_true rfl) ⟨a87, h86, w88, ?_⟩
                    obtain ⟨s89, H⟩ := H
                    exact x_iretz (q168c2 22 rfl) s89 H
                  · replace H := H.2 c85
                    refine x_iconst (q168c2 17 rfl) ?_
                    exact x_iretz (q168c2 18 rfl) (.inl rfl) H
                · replace H := H.2 c81
                  refine x_iconst (q168c1 54 rfl) ?_
                  exact x_iretz (q168c1 55 rfl) (.inl rfl) H
          · replace H := H.2 c61
            refine x_iconst (q168c1 5 rfl) ?_
            exact x_iretz (q168c1 6 rfl) (.inl rfl) H
        · replace H := H.2 c55
          refine x_iconst (q168c0 42 rfl) ?_
          exact x_iretz (q168c0 43 rfl) (.inl rfl) H
      · replace H := H.2 c47
        refine x_if_ne_f (q168c0 20 rfl) (by decide) ?_
        refine x_iconst (q168c0 21 rfl) ?_
        exact x_iretz (q168c0 22 rfl) (.inl rfl) H
theorem e_Mo_become {h : am_H} {x1 : Int} {x2 : Int} {P : am_H → Prop} (H : (am_ok (9 * x1) ∧ am_ok (250 + 9 * x1) ∧ (0 ≤ 250 + 9 * x1 ∧ 250 + 9 * x1 < 820)) ∧ am_x (am_cd 2) 169 (am_qv P) 0 11 [some (.inr (.inr 56)), some (.inl x1), some (.inl x2), some (.inl 0), none, none, none, none] [] (am_up h 56 16 (h 57 (250 + 9 * x1)))) : ∃ h1, am_cd 3 169 [.inr (.inr 56), .inl x1, .inl x2] h none h1 ∧ P h1 := by
  refine am_outv (d := 2) (ls := [some (.inr (.inr 56)), some (.inl x1), some (.inl x2), none, none, none, none, none]) rfl ab169 ml169 (Nat.le_of_ble_eq_true rfl) np169 rfl ?_
  refine x_aload_n (q169c0 0 rfl) rfl ?_
  refine x_aload_n (q169c0 1 rfl) rfl ?_
  refine x_iload_n (q169c0 2 rfl) rfl ?_
  refine x_cvi (q169c0 3 rfl) rfl oc56 rfl (Nat.le_of_ble_eq_true rfl) (am_lifti (Nat.le_of_ble_eq_true rfl) (e_Mo_sizeOfForm (r1 := h 57 (250 + 9 * x1)) (rfl) ?_))
  obtain ⟨⟨s1, s2, s3⟩, H⟩ := H
  refine ⟨⟨s1, s2, s3⟩, ?_⟩
  refine x_putf (q169c0 4 rfl) fd56_16 ?_
  refine x_iconst (q169c0 5 rfl) ?_
  refine x_istore_n (q169c0 6 rfl) ⟨Nat.le_of_ble_eq_true rfl, trivial⟩ ?_
  exact H
theorem g_Mo_become_11 {h : am_H} {x1 : Int} {x2 : Int} {x3 : Int} {P : am_H → Prop} (H : (h 56 16 ≤ x3 → ((am_ok (48 * x2)) ∧ am_x (am_cd 2) 169 (am_qv P) 0 42 [some (.inr (.inr 56)), none, some (.inl x2), some (.inl (48 * x2)), none, none, none, none] [] h)) ∧ (x3 < h 56 16 → ((am_ok (9 * x1) ∧ am_ok (250 + 9 * x1) ∧ am_ok (250 + 9 * x1 + 1) ∧ am_ok (250 + 9 * x1 + 1 + x3) ∧ (0 ≤ 250 + 9 * x1 + 1 + x3 ∧ 250 + 9 * x1 + 1 + x3 < 820)) ∧ (((0 ≤ x3 ∧ x3 < 8) ∧ am_ok (x3 + 1)) ∧ am_x (am_cd 2) 169 (am_qv P) 0 11 [some (.inr (.inr 56)), some (.inl x1), some (.inl x2), some (.inl (x3 + 1)), none, none, none, none] [] (am_up h 67 x3 (h 57 (251 + 9 * x1 + x3))))))) : am_x (am_cd 2) 169 (am_qv P) 0 11 [some (.inr (.inr 56)), some (.inl x1), some (.inl x2), some (.inl x3), none, none, none, none] [] h := by
  refine x_iload_n (q169c0 7 rfl) rfl ?_
  refine x_aload_n (q169c0 8 rfl) rfl ?_
  refine x_getf (q169c0 9 rfl) fd56_16 (rfl) ?_
  refine x_icmp_ge (q169c0 10 rfl) (fun c1 => ?_) (fun c1 => ?_)
  · replace H := H.1 c1
    obtain ⟨s2, H⟩ := H
    refine x_bipush (q169c0 21 rfl) ?_
    refine x_iload_n (q169c0 22 rfl) rfl ?_
    refine x_imul (q169c0 23 rfl) s2 ?_
    refine x_istore_n (q169c0 24 rfl) ⟨Nat.le_of_ble_eq_true rfl, trivial⟩ ?_
    exact am_x_weak (ls' := [some (.inr (.inr 56)), some (.inl x1), some (.inl x2), some (.inl (48 * x2)), none, none, none, none]) (lle_c (lle_d trivial (lle_c (lle_c (lle_c (lle_c (lle_c (lle_c (lle_nil))))))))) H
  · replace H := H.2 c1
    refine x_aload_n (q169c0 11 rfl) rfl ?_
    refine x_getr (q169c0 12 rfl) fd56_12 ?_
    refine x_iload_n (q169c0 13 rfl) rfl ?_
    refine x_aload_n (q169c0 14 rfl) rfl ?_
    refine x_iload_n (q169c0 15 rfl) rfl ?_
    refine x_iload_n (q169c0 16 rfl) rfl ?_
    refine x_cvi (q169c0 17 rfl) rfl oc56 rfl (Nat.le_of_ble_eq_true rfl) (am_lifti (Nat.le_of_ble_eq_true rfl) (e_Mo_soundOf (r1 := h 57 (251 + 9 * x1 + x3)) (rfl) ?_))
    obtain ⟨⟨s3, s4, s5, s6, s7⟩, H⟩ := H
    refine ⟨⟨s3, s4, s5, s6, s7⟩, ?_⟩
    obtain ⟨⟨s8, s9⟩, H⟩ := H
    refine x_iastore (q169c0 18 rfl) (al67 _) rfl (Nat.le_of_ble_eq_true rfl) s8 (j := x3) rfl ?_
    refine x_iinc (q169c0 19 rfl) rfl ⟨Nat.le_of_ble_eq_true rfl, trivial⟩ s9 ?_
    refine x_goto (q169c0 20 rfl) ?_
    exact H
theorem g_Mo_become_42 {h : am_H} {x2 : Int} {x3 : Int} {P : am_H → Prop} (H : (am_ok (48 * x2) ∧ (0 ≤ x2 ∧ x2 < 4) ∧ am_ok (4 * h 64 x2) ∧ am_ok (48 * x2 + 4 * h 64 x2)) ∧ ((48 * x2 + 4 * h 64 x2 ≤ x3 → P h) ∧ (x3 < 48 * x2 + 4 * h 64 x2 → am_x (am_cd 2) 169 (am_qv P) 0 65 [some (.inr (.inr 56)), none, some (.inl x2), some (.inl x3), some (.inl 0), some (.inl 0), none, none] [] h))) : am_x (am_cd 2) 169 (am_qv P) 0 42 [some (.inr (.inr 56)), none, some (.inl x2), some (.inl x3), none, none, none, none] [] h := by
  obtain ⟨⟨s1, s2, s3, s4⟩, H⟩ := H
  refine x_iload_n (q169c0 25 rfl) rfl ?_
  refine x_bipush (q169c0 26 rfl) ?_
  refine x_iload_n (q169c0 27 rfl) rfl ?_
  refine x_imul (q169c0 28 rfl) s1 ?_
  refine x_iconst (q169c0 29 rfl) ?_
  refine x_aload_n (q169c0 30 rfl) rfl ?_
  refine x_getr (q169c0 31 rfl) fd56_9 ?_
  refine x_iload_n (q169c0 32 rfl) rfl ?_
  refine x_iaload (q169c0 33 rfl) (al64 _) rfl (ag_l rfl rfl (rfl)) s2 ?_
  refine x_imul (q169c0 34 rfl) s3 ?_
  refine x_iadd (q169c0 35 rfl) s4 ?_
  refine x_icmp_ge (q169c0 36 rfl) (fun c5 => ?_) (fun c5 => ?_)
  · replace H := H.1 c5
    exact x_ret (q169c2 7 rfl) H
  · replace H := H.2 c5
    refine x_iconst (q169c0 37 rfl) ?_
    refine x_istore (q169c0 38 rfl) ⟨Nat.le_of_ble_eq_true rfl, trivial⟩ ?_
    refine x_iconst (q169c0 39 rfl) ?_
    refine x_istore (q169c0 40 rfl) ⟨Nat.le_of_ble_eq_true rfl, trivial⟩ ?_
    exact H
theorem g_Mo_become_65 {h : am_H} {x2 : Int} {x3 : Int} {x4 : Int} {x5 : Int} {P : am_H → Prop} (H : (h 56 16 ≤ x5 → am_x (am_cd 2) 169 (am_qv P) 0 195 [some (.inr (.inr 56)), none, some (.inl x2), some (.inl x3), some (.inl x4), some (.inl 0), none, none] [] (am_up h 56 16 x4)) ∧ (x5 < h 56 16 → (((0 ≤ x5 ∧ x5 < 8) ∧ (0 ≤ x3 ∧ x3 < 192)) ∧ ((h 67 x5 ≠ h 65 x3 → ((0 ≤ h 67 x5 → (((0 ≤ x4 ∧ x4 < 8) ∧ am_ok (x4 + 1) ∧ am_ok (x5 + 1)) ∧ am_x (am_cd 2) 169 (am_qv P) 0 65 [some (.inr (.inr 56)), none, some (.inl x2), some (.inl x3), some (.inl (x4 + 1)), some (.inl (x5 + 1)), none, none] [] (am_up h 68 x4 (h 67 x5)))) ∧ (h 67 x5 < 0 → ((am_ok (x5 + 1)) ∧ am_x (am_cd 2) 169 (am_qv P) 0 65 [some (.inr (.inr 56)), none, some (.inl x2), some (.inl x3), some (.inl x4), some (.inl (x5 + 1)), none, none] [] h)))) ∧ (h 67 x5 = h 65 x3 → ((am_ok (x3 + 2) ∧ (0 ≤ x3 + 2 ∧ x3 + 2 < 192) ∧ am_ok (x5 - 1)) ∧ (∃ a14 h13, am_cd 2 131 [.inr (.inr 56), .inl (h 65 (2 + x3)), .inl (x5 - 1)] h (some (.inl a14)) h13 ∧ ((a14 = 0 → ((0 ≤ h13 67 x5 → (((0 ≤ x4 ∧ x4 < 8) ∧ am_ok (x4 + 1) ∧ am_ok (x5 + 1)) ∧ am_x (am_cd 2) 169 (am_qv P) 0 65 [some (.inr (.inr 56)), none, some (.inl x2), some (.inl x3), some (.inl (x4 + 1)), some (.inl (x5 + 1)), none, none] [] (am_up h13 68 x4 (h13 67 x5)))) ∧ (h13 67 x5 < 0 → ((am_ok (x5 + 1)) ∧ am_x (am_cd 2) 169 (am_qv P) 0 65 [some (.inr (.inr 56)), none, some (.inl x2), some (.inl x3), some (.inl x4), some (.inl (x5 + 1)), none, none] [] h13)))) ∧ (a14 ≠ 0 → ((am_ok (x3 + 3) ∧ (0 ≤ x3 + 3 ∧ x3 + 3 < 192) ∧ am_ok (x5 + 1)) ∧ (∃ a26 h25, am_cd 2 131 [.inr (.inr 56), .inl (h13 65 (3 + x3)), .inl (x5 + 1)] h13 (some (.inl a26)) h25 ∧ ((a26 = 0 → ((0 ≤ h25 67 x5 → (((0 ≤ x4 ∧ x4 < 8) ∧ am_ok (x4 + 1)) ∧ am_x (am_cd 2) 169 (am_qv P) 0 65 [some (.inr (.inr 56)), none, some (.inl x2), some (.inl x3), some (.inl (x4 + 1)), some (.inl (x5 + 1)), none, none] [] (am_up h25 68 x4 (h25 67 x5)))) ∧ (h25 67 x5 < 0 → am_x (am_cd 2) 169 (am_qv P) 0 65 [some (.inr (.inr 56)), none, some (.inl x2), some (.inl x3), some (.inl x4), some (.inl (x5 + 1)), none, none] [] h25))) ∧ (a26 ≠ 0 → ((am_ok (x3 + 1) ∧ (0 ≤ x3 + 1 ∧ x3 + 1 < 192)) ∧ ((0 ≤ h25 65 (1 + x3) → (((0 ≤ x4 ∧ x4 < 8) ∧ am_ok (x4 + 1)) ∧ am_x (am_cd 2) 169 (am_qv P) 0 65 [some (.inr (.inr 56)), none, some (.inl x2), some (.inl x3), some (.inl (x4 + 1)), some (.inl (x5 + 1)), none, none] [] (am_up h25 68 x4 (h25 65 (1 + x3))))) ∧ (h25 65 (1 + x3) < 0 → am_x (am_cd 2) 169 (am_qv P) 0 65 [some (.inr (.inr 56)), none, some (.inl x2), some (.inl x3), some (.inl x4), some (.inl (x5 + 1)), none, none] [] h25)))))))))))))))) : am_x (am_cd 2) 169 (am_qv P) 0 65 [some (.inr (.inr 56)), none, some (.inl x2), some (.inl x3), some (.inl x4), some (.inl x5), none, none] [] h := by
  refine x_iload (q169c0 41 rfl) rfl ?_
  refine x_aload_n (q169c0 42 rfl) rfl ?_
  refine x_getf (q169c0 43 rfl) fd56_16 (rfl) ?_
  refine x_icmp_ge (q169c0 44 rfl) (fun c1 => ?_) (fun c1 => ?_)
  · replace H := H.1 c1
    refine x_aload_n (q169c1 47 rfl) rfl ?_
    refine x_iload (q169c1 48 rfl) rfl ?_
    refine x_putf (q169c1 49 rfl) fd56_16 ?_
    refine x_iconst (q169c1 50 rfl) ?_
    refine x_istore (q169c1 51 rfl) ⟨Nat.le_of_ble_eq_true rfl, trivial⟩ ?_
    exact H
  · replace H := H.2 c1
    obtain ⟨⟨s2, s3⟩, H⟩ := H
    refine x_aload_n (q169c0 45 rfl) rfl ?_
    refine x_getr (q169c0 46 rfl) fd56_12 ?_
    refine x_iload (q169c0 47 rfl) rfl ?_
    refine x_iaload (q169c0 48 rfl) (al67 _) rfl (ag_l rfl rfl (rfl)) s2 ?_
    refine x_aload_n (q169c0 49 rfl) rfl ?_
    refine x_getr (q169c0 50 rfl) fd56_10 ?_
    refine x_iload_n (q169c0 51 rfl) rfl ?_
    refine x_iaload (q169c0 52 rfl) (al65 _) rfl (ag_l rfl rfl (rfl)) s3 ?_
    refine x_icmp_ne (q169c0 53 rfl) (fun c4 => ?_) (fun c4 => ?_)
    · replace H := H.1 c4
      refine x_iconst (q169c1 20 rfl) ?_
      refine x_istore (q169c1 21 rfl) ⟨Nat.le_of_ble_eq_true rfl, trivial⟩ ?_
      refine x_iload (q169c1 22 rfl) rfl ?_
      refine x_if_eq_t (q169c1 23 rfl) (by decide) ?_
      refine x_aload_n (q169c1 31 rfl) rfl ?_
      refine x_getr (q169c1 32 rfl) fd56_12 ?_
      refine x_iload (q169c1 33 rfl) rfl ?_
      refine x_iaload (q169c1 34 rfl) (al67 _) rfl (ag_l rfl rfl (rfl)) s2 ?_
      refine x_istore (q169c1 35 rfl) ⟨Nat.le_of_ble_eq_true rfl, trivial⟩ ?_
      refine x_iload (q169c1 36 rfl) rfl ?_
      refine x_if_ge (q169c1 37 rfl) (fun c5 => ?_) (fun c5 => ?_)
      · replace H := H.1 c5
        obtain ⟨⟨s6, s7, s8⟩, H⟩ := H
        refine x_aload_n (q169c1 39 rfl) rfl ?_
        refine x_getr (q169c1 40 rfl) fd56_13 ?_
        refine x_iload (q169c1 41 rfl) rfl ?_
        refine x_iload (q169c1 42 rfl) rfl ?_
        refine x_iastore (q169c1 43 rfl) (al68 _) rfl (Nat.le_of_ble_eq_true rfl) s6 (j := x4) rfl ?_
        refine x_iinc (q169c1 44 rfl) rfl ⟨Nat.le_of_ble_eq_true rfl, trivial⟩ s7 ?_
        refine x_iinc (q169c1 45 rfl) rfl ⟨Nat.le_of_ble_eq_true rfl, trivial⟩ s8 ?_
        refine x_goto (q169c1 46 rfl) ?_
        exact am_x_weak (ls' := [some (.inr (.inr 56)), none, some (.inl x2), some (.inl x3), some (.inl (x4 + 1)), some (.inl (x5 + 1)), some (.inl 0), some (.inl (h 67 x5))]) (lle_c (lle_c (lle_c (lle_c (lle_c (lle_c (lle_d trivial (lle_d trivial (lle_nil))))))))) H
      · replace H := H.2 c5
        obtain ⟨s9, H⟩ := H
        refine x_goto (q169c1 38 rfl) ?_
        refine x_iinc (q169c1 45 rfl) rfl ⟨Nat.le_of_ble_eq_true rfl, trivial⟩ s9 ?_
        refine x_goto (q169c1 46 rfl) ?_
        exact am_x_weak (ls' := [some (.inr (.inr 56)), none, some (.inl x2), some (.inl x3), some (.inl x4), some (.inl (x5 + 1)), some (.inl 0), some (.inl (h 67 x5))]) (lle_c (lle_c (lle_c (lle_c (lle_c (lle_c (lle_d trivial (lle_d trivial (lle_nil))))))))) H
    · replace H := H.2 c4
      obtain ⟨⟨s10, s11, s12⟩, H⟩ := H
      refine x_aload_n (q169c0 54 rfl) rfl ?_
      refine x_aload_n (q169c0 55 rfl) rfl ?_
      refine x_getr (q169c0 56 rfl) fd56_10 ?_
      refine x_iload_n (q169c0 57 rfl) rfl ?_
      refine x_iconst (q169c0 58 rfl) ?_
      refine x_iadd (q169c0 59 rfl) s10 ?_
      refine x_iaload (q169c1 0 rfl) (al65 _) rfl (ag_l (j1 := 2 + x3) rfl (by omega) (rfl)) s11 ?_
      refine x_iload (q169c1 1 rfl) rfl ?_
      refine x_iconst (q169c1 2 rfl) ?_
      refine x_isub (q169c1 3 rfl) s12 ?_
      obtain ⟨a14, h13, w15, H⟩ := H
      refine x_cvi (q169c1 4 rfl) rfl oc56 rfl (Nat.le_of_ble_eq_true rfl) ⟨a14, h13, w15, ?_⟩
      refine x_if_eq (q169c1 5 rfl) (fun c16 => ?_) (fun c16 => ?_)
      · replace H := H.1 c16
        refine x_iconst (q169c1 20 rfl) ?_
        refine x_istore (q169c1 21 rfl) ⟨Nat.le_of_ble_eq_true rfl, trivial⟩ ?_
        refine x_iload (q169c1 22 rfl) rfl ?_
        refine x_if_eq_t (q169c1 23 rfl) (by decide) ?_
        refine x_aload_n (q169c1 31 rfl) rfl ?_
        refine x_getr (q169c1 32 rfl) fd56_12 ?_
        refine x_iload (q169c1 33 rfl) rfl ?_
        refine x_iaload (q169c1 34 rfl) (al67 _) rfl (ag_l rfl rfl (rfl)) s2 ?_
        refine x_istore (q169c1 35 rfl) ⟨Nat.le_of_ble_eq_true rfl, trivial⟩ ?_
        refine x_iload (q169c1 36 rfl) rfl ?_
        refine x_if_ge (q169c1 37 rfl) (fun c17 => ?_) (fun c17 => ?_)
        · replace H := H.1 c17
          obtain ⟨⟨s18, s19, s20⟩, H⟩ := H
          refine x_aload_n (q169c1 39 rfl) rfl ?_
          refine x_getr (q169c1 40 rfl) fd56_13 ?_
          refine x_iload (q169c1 41 rfl) rfl ?_
          refine x_iload (q169c1 42 rfl) rfl ?_
          refine x_iastore (q169c1 43 rfl) (al68 _) rfl (Nat.le_of_ble_eq_true rfl) s18 (j := x4) rfl ?_
          refine x_iinc (q169c1 44 rfl) rfl ⟨Nat.le_of_ble_eq_true rfl, trivial⟩ s19 ?_
          refine x_iinc (q169c1 45 rfl) rfl ⟨Nat.le_of_ble_eq_true rfl, trivial⟩ s20 ?_
          refine x_goto (q169c1 46 rfl) ?_
          exact am_x_weak (ls' := [some (.inr (.inr 56)), none, some (.inl x2), some (.inl x3), some (.inl (x4 + 1)), some (.inl (x5 + 1)), some (.inl 0), some (.inl (h13 67 x5))]) (lle_c (lle_c (lle_c (lle_c (lle_c (lle_c (lle_d trivial (lle_d trivial (lle_nil))))))))) H
        · replace H := H.2 c17
          obtain ⟨s21, H⟩ := H
          refine x_goto (q169c1 38 rfl) ?_
          refine x_iinc (q169c1 45 rfl) rfl ⟨Nat.le_of_ble_eq_true rfl, trivial⟩ s21 ?_
          refine x_goto (q169c1 46 rfl) ?_
          exact am_x_weak (ls' := [some (.inr (.inr 56)), none, some (.inl x2), some (.inl x3), some (.inl x4), some (.inl (x5 + 1)), some (.inl 0), some (.inl (h13 67 x5))]) (lle_c (lle_c (lle_c (lle_c (lle_c (lle_c (lle_d trivial (lle_d trivial (lle_nil))))))))) H
      · replace H := H.2 c16
        obtain ⟨⟨s22, s23, s24⟩, H⟩ := H
        refine x_aload_n (q169c1 6 rfl) rfl ?_
        refine x_aload_n (q169c1 7 rfl) rfl ?_
        refine x_getr (q169c1 8 rfl) fd56_10 ?_
        refine x_iload_n (q169c1 9 rfl) rfl ?_
        refine x_iconst (q169c1 10 rfl) ?_
        refine x_iadd (q169c1 11 rfl) s22 ?_
        refine x_iaload (q169c1 12 rfl) (al65 _) rfl (ag_l (j1 := 3 + x3) rfl (by omega) (rfl)) s23 ?_
        refine x_iload (q169c1 13 rfl) rfl ?_
        refine x_iconst (q169c1 14 rfl) ?_
        refine x_iadd (q169c1 15 rfl) s24 ?_
        obtain ⟨a26, h25, w27, H⟩ := H
        refine x_cvi (q169c1 16 rfl) rfl oc56 rfl (Nat.le_of_ble_eq_true rfl) ⟨a26, h25, w27, ?_⟩
        refine x_if_eq (q169c1 17 rfl) (fun c28 => ?_) (fun c28 => ?_)
        · replace H := H.1 c28
          refine x_iconst (q169c1 20 rfl) ?_
          refine x_istore (q169c1 21 rfl) ⟨Nat.le_of_ble_eq_true rfl, trivial⟩ ?_
          refine x_iload (q169c1 22 rfl) rfl ?_
          refine x_if_eq_t (q169c1 23 rfl) (by decide) ?_
          refine x_aload_n (q169c1 31 rfl) rfl ?_
          refine x_getr (q169c1 32 rfl) fd56_12 ?_
          refine x_iload (q169c1 33 rfl) rfl ?_
          refine x_iaload (q169c1 34 rfl) (al67 _) rfl (ag_l rfl rfl (rfl)) s2 ?_
          refine x_istore (q169c1 35 rfl) ⟨Nat.le_of_ble_eq_true rfl, trivial⟩ ?_
          refine x_iload (q169c1 36 rfl) rfl ?_
          refine x_if_ge (q169c1 37 rfl) (fun c29 => ?_) (fun c29 => ?_)
          · replace H := H.1 c29
            obtain ⟨⟨s30, s31⟩, H⟩ := H
            refine x_aload_n (q169c1 39 rfl) rfl ?_
            refine x_getr (q169c1 40 rfl) fd56_13 ?_
            refine x_iload (q169c1 41 rfl) rfl ?_
            refine x_iload (q169c1 42 rfl) rfl ?_
            refine x_iastore (q169c1 43 rfl) (al68 _) rfl (Nat.le_of_ble_eq_true rfl) s30 (j := x4) rfl ?_
            refine x_iinc (q169c1 44 rfl) rfl ⟨Nat.le_of_ble_eq_true rfl, trivial⟩ s31 ?_
            refine x_iinc (q169c1 45 rfl) rfl ⟨Nat.le_of_ble_eq_true rfl, trivial⟩ s24 ?_
            refine x_goto (q169c1 46 rfl) ?_
            exact am_x_weak (ls' := [some (.inr (.inr 56)), none, some (.inl x2), some (.inl x3), some (.inl (x4 + 1)), some (.inl (x5 + 1)), some (.inl 0), some (.inl (h25 67 x5))]) (lle_c (lle_c (lle_c (lle_c (lle_c (lle_c (lle_d trivial (lle_d trivial (lle_nil))))))))) H
          · replace H := H.2 c29
            refine x_goto (q169c1 38 rfl) ?_
            refine x_iinc (q169c1 45 rfl) rfl ⟨Nat.le_of_ble_eq_true rfl, trivial⟩ s24 ?_
            refine x_goto (q169c1 46 rfl) ?_
            exact am_x_weak (ls' := [some (.inr (.inr 56)), none, some (.inl x2), some (.inl x3), some (.inl x4), some (.inl (x5 + 1)), some (.inl 0), some (.inl (h25 67 x5))]) (lle_c (lle_c (lle_c (lle_c (lle_c (lle_c (lle_d trivial (lle_d trivial (lle_nil))))))))) H
        · replace H := H.2 c28
          obtain ⟨⟨s32, s33⟩, H⟩ := H
          refine x_iconst (q169c1 18 rfl) ?_
          refine x_goto (q169c1 19 rfl) ?_
          refine x_istore (q169c1 21 rfl) ⟨Nat.le_of_ble_eq_true rfl, trivial⟩ ?_
          refine x_iload (q169c1 22 rfl) rfl ?_
          refine x_if_eq_f (q169c1 23 rfl) (by decide) ?_
          refine x_aload_n (q169c1 24 rfl) rfl ?_
          refine x_getr (q169c1 25 rfl) fd56_10 ?_
          refine x_iload_n (q169c1 26 rfl) rfl ?_
          refine x_iconst (q169c1 27 rfl) ?_
          refine x_iadd (q169c1 28 rfl) s32 ?_
          refine x_iaload (q169c1 29 rfl) (al65 _) rfl (ag_l (j1 := 1 + x3) rfl (by omega) (rfl)) s33 ?_
          refine x_goto (q169c1 30 rfl) ?_
          refine x_istore (q169c1 35 rfl) ⟨Nat.le_of_ble_eq_true rfl, trivial⟩ ?_
          refine x_iload (q169c1 36 rfl) rfl ?_
          refine x_if_ge (q169c1 37 rfl) (fun c34 => ?_) (fun c34 => ?_)
          · replace H := H.1 c34
            obtain ⟨⟨s35, s36⟩, H⟩ := H
            refine x_aload_n (q169c1 39 rfl) rfl ?_
            refine x_getr (q169c1 40 rfl) fd56_13 ?_
            refine x_iload (q169c1 41 rfl) rfl ?_
            refine x_iload (q169c1 42 rfl) rfl ?_
            refine x_iastore (q169c1 43 rfl) (al68 _) rfl (Nat.le_of_ble_eq_true rfl) s35 (j := x4) rfl ?_
            refine x_iinc (q169c1 44 rfl) rfl ⟨Nat.le_of_ble_eq_true rfl, trivial⟩ s36 ?_
            refine x_iinc (q169c1 45 rfl) rfl ⟨Nat.le_of_ble_eq_true rfl, trivial⟩ s24 ?_
            refine x_goto (q169c1 46 rfl) ?_
            exact am_x_weak (ls' := [some (.inr (.inr 56)), none, some (.inl x2), some (.inl x3), some (.inl (x4 + 1)), some (.inl (x5 + 1)), some (.inl 1), some (.inl (h25 65 (1 + x3)))]) (lle_c (lle_c (lle_c (lle_c (lle_c (lle_c (lle_d trivial (lle_d trivial (lle_nil))))))))) H
          · replace H := H.2 c34
            refine x_goto (q169c1 38 rfl) ?_
            refine x_iinc (q169c1 45 rfl) rfl ⟨Nat.le_of_ble_eq_true rfl, trivial⟩ s24 ?_
            refine x_goto (q169c1 46 rfl) ?_
            exact am_x_weak (ls' := [some (.inr (.inr 56)), none, some (.inl x2), some (.inl x3), some (.inl x4), some (.inl (x5 + 1)), some (.inl 1), some (.inl (h25 65 (1 + x3)))]) (lle_c (lle_c (lle_c (lle_c (lle_c (lle_c (lle_d trivial (lle_d trivial (lle_nil))))))))) H
theorem g_Mo_become_195 {h : am_H} {x2 : Int} {x3 : Int} {x4 : Int} {x5 : Int} {P : am_H → Prop} (H : (x4 ≤ x5 → ((am_ok (x3 + 4)) ∧ am_x (am_cd 2) 169 (am_qv P) 0 42 [some (.inr (.inr 56)), none, some (.inl x2), some (.inl (x3 + 4)), none, none, none, none] [] h)) ∧ (x5 < x4 → (((0 ≤ x5 ∧ x5 < 8) ∧ am_ok (x5 + 1)) ∧ am_x (am_cd 2) 169 (am_qv P) 0 195 [some (.inr (.inr 56)), none, some (.inl x2), some (.inl x3), some (.inl x4), some (.inl (x5 + 1)), none, none] [] (am_up h 67 x5 (h 68 x5))))) : am_x (am_cd 2) 169 (am_qv P) 0 195 [some (.inr (.inr 56)), none, some (.inl x2), some (.inl x3), some (.inl x4), some (.inl x5), none, none] [] h := by
  refine x_iload (q169c1 52 rfl) rfl ?_
  refine x_iload (q169c1 53 rfl) rfl ?_
  refine x_icmp_ge (q169c1 54 rfl) (fun c1 => ?_) (fun c1 => ?_)
  · replace H := H.1 c1
    obtain ⟨s2, H⟩ := H
    refine x_iinc (q169c2 5 rfl) rfl ⟨Nat.le_of_ble_eq_true rfl, trivial⟩ s2 ?_
    refine x_goto (q169c2 6 rfl) ?_
    exact am_x_weak (ls' := [some (.inr (.inr 56)), none, some (.inl x2), some (.inl (x3 + 4)), some (.inl x4), some (.inl x5), none, none]) (lle_c (lle_c (lle_c (lle_c (lle_d trivial (lle_d trivial (lle_c (lle_c (lle_nil))))))))) H
  · replace H := H.2 c1
    obtain ⟨⟨s3, s4⟩, H⟩ := H
    refine x_aload_n (q169c1 55 rfl) rfl ?_
    refine x_getr (q169c1 56 rfl) fd56_12 ?_
    refine x_iload (q169c1 57 rfl) rfl ?_
    refine x_aload_n (q169c1 58 rfl) rfl ?_
    refine x_getr (q169c1 59 rfl) fd56_13 ?_
    refine x_iload (q169c2 0 rfl) rfl ?_
    refine x_iaload (q169c2 1 rfl) (al68 _) rfl (ag_l rfl rfl (rfl)) s3 ?_
    refine x_iastore (q169c2 2 rfl) (al67 _) rfl (Nat.le_of_ble_eq_true rfl) s3 (j := x5) rfl ?_
    refine x_iinc (q169c2 3 rfl) rfl ⟨Nat.le_of_ble_eq_true rfl, trivial⟩ s4 ?_
    refine x_goto (q169c2 4 rfl) ?_
    exact H
theorem e_Mo_round {h : am_H} {x1 : Int} {x2 : Int} {x3 : Int} {P : Int → am_H → Prop} (H : (am_ok (h 57 0 - 1)) ∧ (((0 ≤ x1 ∧ x1 ≤ h 57 0 - 1) → ((x2 < 0 → ((am_ok (h 56 3 + 1)) ∧ P (-100001) (am_up h 56 3 (h 56 3 + 1)))) ∧ (0 ≤ x2 → ((am_shr x2 (h 57 0) ≠ 0 → ((am_ok (h 56 3 + 1)) ∧ P (-100001) (am_up h 56 3 (h 56 3 + 1)))) ∧ (am_shr x2 (h 57 0) = 0 → ((am_and (am_shr x2 x1) 1 = 1 → ((am_ok (h 56 3 + 1)) ∧ P (-100001) (am_up h 56 3 (h 56 3 + 1)))) ∧ (am_and (am_shr x2 x1) 1 ≠ 1 → (((-1) ≤ x3 → (∃ a11 h10, am_cd 11 85 [.inl x2] h (some (.inl a11)) h10 ∧ ((a11 ≤ 7 → am_x (am_cd 11) 170 (am_qi P) 0 63 [some (.inr (.inr 56)), some (.inl x1), some (.inl x2), some (.inl x3), some (.inl 0), none] [] h10) ∧ (7 < a11 → ((am_ok (h10 56 3 + 1)) ∧ P (-100003) (am_up h10 56 3 (h10 56 3 + 1))))))) ∧ (x3 < (-1) → ((am_ok (h 56 3 + 1)) ∧ P (-100001) (am_up h 56 3 (h 56 3 + 1)))))))))))) ∧ ((¬(0 ≤ x1 ∧ x1 ≤ h 57 0 - 1)) → ((am_ok (h 56 3 + 1)) ∧ P (-100001) (am_up h 56 3 (h 56 3 + 1)))))) : ∃ a h1, am_cd 12 170 [.inr (.inr 56), .inl x1, .inl x2, .inl x3] h (some (.inl a)) h1 ∧ P a h1 := by
  refine am_outi (d := 11) (ls := [some (.inr (.inr 56)), some (.inl x1), some (.inl x2), some (.inl x3), none, none]) rfl ab170 ml170 (Nat.le_of_ble_eq_true rfl) np170 rfl ?_
  refine x_aload_n (q170c0 0 rfl) rfl ?_
  refine x_iload_n (q170c0 1 rfl) rfl ?_
  refine x_cvi (q170c0 2 rfl) rfl oc56 rfl (Nat.le_of_ble_eq_true rfl) (am_lifti (Nat.le_of_ble_eq_true rfl) (e_Mo_isVillage (r1 := h 57 0) (rfl) ?_))
  obtain ⟨s1, H⟩ := H
  refine ⟨s1, ?_⟩
  refine ⟨fun c2 => ?_, fun c2 => ?_⟩
  · replace H := H.1 c2
    refine x_if_eq_f (q170c0 3 rfl) (by decide) ?_
    refine x_iload_n (q170c0 4 rfl) rfl ?_
    refine x_if_lt (q170c0 5 rfl) (fun c3 => ?_) (fun c3 => ?_)
    · replace H := H.1 c3
      refine x_aload_n (q170c0 23 rfl) rfl ?_
      refine x_ldc (q170c0 24 rfl) ?_
      refine x_cvi (q170c0 25 rfl) rfl oc56 rfl (Nat.le_of_ble_eq_true rfl) (am_lifti (Nat.le_of_ble_eq_true rfl) (e_Mo_finds (r1 := h 56 3) (rfl) ?_))
      obtain ⟨s4, H⟩ := H
      refine ⟨s4, ?_⟩
      exact x_ireti (q170c0 26 rfl) zb170 H
    · replace H := H.2 c3
      refine x_iload_n (q170c0 6 rfl) rfl ?_
      refine x_aload_n (q170c0 7 rfl) rfl ?_
      refine x_getr (q170c0 8 rfl) fd56_0 ?_
      refine x_iconst (q170c0 9 rfl) ?_
      refine x_iaload (q170c0 10 rfl) (al57 _) rfl (ag_l rfl rfl (rfl)) (by decide) ?_
      refine x_ishr (q170c0 11 rfl) ?_
      refine x_if_ne (q170c0 12 rfl) (fun c5 => ?_) (fun c5 => ?_)
      · replace H := H.1 c5
        refine x_aload_n (q170c0 23 rfl) rfl ?_
        refine x_ldc (q170c0 24 rfl) ?_
        refine x_cvi (q170c0 25 rfl) rfl oc56 rfl (Nat.le_of_ble_eq_true rfl) (am_lifti (Nat.le_of_ble_eq_true rfl) (e_Mo_finds (r1 := h 56 3) (rfl) ?_))
        obtain ⟨s6, H⟩ := H
        refine ⟨s6, ?_⟩
        exact x_ireti (q170c0 26 rfl) zb170 H
      · replace H := H.2 c5
        refine x_iload_n (q170c0 13 rfl) rfl ?_
        refine x_iload_n (q170c0 14 rfl) rfl ?_
        refine x_ishr (q170c0 15 rfl) ?_
        refine x_iconst (q170c0 16 rfl) ?_
        refine x_iand (q170c0 17 rfl) ?_
        refine x_iconst (q170c0 18 rfl) ?_
        refine x_icmp_eq (q170c0 19 rfl) (fun c7 => ?_) (fun c7 => ?_)
        · replace H := H.1 c7
          refine x_aload_n (q170c0 23 rfl) rfl ?_
          refine x_ldc (q170c0 24 rfl) ?_
          refine x_cvi (q170c0 25 rfl) rfl oc56 rfl (Nat.le_of_ble_eq_true rfl) (am_lifti (Nat.le_of_ble_eq_true rfl) (e_Mo_finds (r1 := h 56 3) (rfl) ?_))
          obtain ⟨s8, H⟩ := H
          refine ⟨s8, ?_⟩
          exact x_ireti (q170c0 26 rfl) zb170 H
        · replace H := H.2 c7
          refine x_iload_n (q170c0 20 rfl) rfl ?_
          refine x_iconst (q170c0 21 rfl) ?_
          refine x_icmp_ge (q170c0 22 rfl) (fun c9 => ?_) (fun c9 => ?_)
          · replace H := H.1 c9
            refine x_iload_n (q170c0 27 rfl) rfl ?_
            obtain ⟨a11, h10, w12, H⟩ := H
            refine x_csi (q170c0 28 rfl) rfl rfl rfl (Nat.le_of_ble_eq_true rfl) ⟨a11, h10, w12, ?_⟩
            refine x_bipush (q170c0 29 rfl) ?_
            refine x_icmp_le (q170c0 30 rfl) (fun c13 => ?_) (fun c13 => ?_)
            · replace H := H.1 c13
              refine x_iconst (q170c0 35 rfl) ?_
              refine x_istore (q170c0 36 rfl) ⟨Nat.le_of_ble_eq_true rfl, trivial⟩ ?_
              exact H
            · replace H := H.2 c13
              refine x_aload_n (q170c0 31 rfl) rfl ?_
              refine x_ldc (q170c0 32 rfl) ?_
              refine x_cvi (q170c0 33 rfl) rfl oc56 rfl (Nat.le_of_ble_eq_true rfl) (am_lifti (Nat.le_of_ble_eq_true rfl) (e_Mo_finds (r1 := h10 56 3) (rfl) ?_))
              obtain ⟨s14, H⟩ := H
              refine ⟨s14, ?_⟩
              exact x_ireti (q170c0 34 rfl) zb170 H
          · replace H := H.2 c9
            refine x_aload_n (q170c0 23 rfl) rfl ?_
            refine x_ldc (q170c0 24 rfl) ?_
            refine x_cvi (q170c0 25 rfl) rfl oc56 rfl (Nat.le_of_ble_eq_true rfl) (am_lifti (Nat.le_of_ble_eq_true rfl) (e_Mo_finds (r1 := h 56 3) (rfl) ?_))
            obtain ⟨s15, H⟩ := H
            refine ⟨s15, ?_⟩
            exact x_ireti (q170c0 26 rfl) zb170 H
  · replace H := H.2 c2
    refine x_if_eq_t (q170c0 3 rfl) (by decide) ?_
    refine x_aload_n (q170c0 23 rfl) rfl ?_
    refine x_ldc (q170c0 24 rfl) ?_
    refine x_cvi (q170c0 25 rfl) rfl oc56 rfl (Nat.le_of_ble_eq_true rfl) (am_lifti (Nat.le_of_ble_eq_true rfl) (e_Mo_finds (r1 := h 56 3) (rfl) ?_))
    obtain ⟨s16, H⟩ := H
    refine ⟨s16, ?_⟩
    exact x_ireti (q170c0 26 rfl) zb170 H
theorem g_Mo_round_63 {h : am_H} {x1 : Int} {x2 : Int} {x3 : Int} {x4 : Int} {P : Int → am_H → Prop} (H : (h 57 0 ≤ x4 → am_x (am_cd 11) 170 (am_qi P) 0 129 [some (.inr (.inr 56)), some (.inl x1), some (.inl x2), some (.inl x3), some (.inl 0), none] [] h) ∧ (x4 < h 57 0 → (∃ h2, am_cd 11 120 [.inr (.inr 56), .inl x4] h none h2 ∧ am_x (am_cd 11) 170 (am_qi P) 0 83 [some (.inr (.inr 56)), some (.inl x1), some (.inl x2), some (.inl x3), some (.inl x4), some (.inl 0)] [] h2))) : am_x (am_cd 11) 170 (am_qi P) 0 63 [some (.inr (.inr 56)), some (.inl x1), some (.inl x2), some (.inl x3), some (.inl x4), none] [] h := by
  refine x_iload (q170c0 37 rfl) rfl ?_
  refine x_aload_n (q170c0 38 rfl) rfl ?_
  refine x_getr (q170c0 39 rfl) fd56_0 ?_
  refine x_iconst (q170c0 40 rfl) ?_
  refine x_iaload (q170c0 41 rfl) (al57 _) rfl (ag_l rfl rfl (rfl)) (by decide) ?_
  refine x_icmp_ge (q170c0 42 rfl) (fun c1 => ?_) (fun c1 => ?_)
  · replace H := H.1 c1
    refine x_iconst (q170c1 10 rfl) ?_
    refine x_istore (q170c1 11 rfl) ⟨Nat.le_of_ble_eq_true rfl, trivial⟩ ?_
    exact H
  · replace H := H.2 c1
    refine x_aload_n (q170c0 43 rfl) rfl ?_
    refine x_iload (q170c0 44 rfl) rfl ?_
    obtain ⟨h2, w3, H⟩ := H
    refine x_cvv (q170c0 45 rfl) rfl oc56 rfl (Nat.le_of_ble_eq_true rfl) ⟨h2, w3, ?_⟩
    refine x_iconst (q170c0 46 rfl) ?_
    refine x_istore (q170c0 47 rfl) ⟨Nat.le_of_ble_eq_true rfl, trivial⟩ ?_
    exact H
theorem g_Mo_round_83 {h : am_H} {x1 : Int} {x2 : Int} {x3 : Int} {x4 : Int} {x5 : Int} {P : Int → am_H → Prop} (H : (h 57 0 ≤ x5 → ((am_ok (x4 + 1)) ∧ am_x (am_cd 11) 170 (am_qi P) 0 63 [some (.inr (.inr 56)), some (.inl x1), some (.inl x2), some (.inl x3), some (.inl (x4 + 1)), none] [] h)) ∧ (x5 < h 57 0 → ((am_ok (12 * x4) ∧ am_ok (12 * x4 + x5) ∧ (0 ≤ x5 ∧ x5 < 12) ∧ (0 ≤ 12 * x4 + x5 ∧ 12 * x4 + x5 < 144) ∧ am_ok (x5 + 1)) ∧ am_x (am_cd 11) 170 (am_qi P) 0 83 [some (.inr (.inr 56)), some (.inl x1), some (.inl x2), some (.inl x3), some (.inl x4), some (.inl (x5 + 1))] [] (am_up h 73 (12 * x4 + x5) (h 59 x5))))) : am_x (am_cd 11) 170 (am_qi P) 0 83 [some (.inr (.inr 56)), some (.inl x1), some (.inl x2), some (.inl x3), some (.inl x4), some (.inl x5)] [] h := by
  refine x_iload (q170c0 48 rfl) rfl ?_
  refine x_aload_n (q170c0 49 rfl) rfl ?_
  refine x_getr (q170c0 50 rfl) fd56_0 ?_
  refine x_iconst (q170c0 51 rfl) ?_
  refine x_iaload (q170c0 52 rfl) (al57 _) rfl (ag_l rfl rfl (rfl)) (by decide) ?_
  refine x_icmp_ge (q170c0 53 rfl) (fun c1 => ?_) (fun c1 => ?_)
  · replace H := H.1 c1
    obtain ⟨s2, H⟩ := H
    refine x_iinc (q170c1 8 rfl) rfl ⟨Nat.le_of_ble_eq_true rfl, trivial⟩ s2 ?_
    refine x_goto (q170c1 9 rfl) ?_
    exact am_x_weak (ls' := [some (.inr (.inr 56)), some (.inl x1), some (.inl x2), some (.inl x3), some (.inl (x4 + 1)), some (.inl x5)]) (lle_c (lle_c (lle_c (lle_c (lle_c (lle_d trivial (lle_nil))))))) H
  · replace H := H.2 c1
    obtain ⟨⟨s3, s4, s5, s6, s7⟩, H⟩ := H
    refine x_aload_n (q170c0 54 rfl) rfl ?_
    refine x_getr (q170c0 55 rfl) fd56_22 ?_
    refine x_bipush (q170c0 56 rfl) ?_
    refine x_iload (q170c0 57 rfl) rfl ?_
    refine x_imul (q170c0 58 rfl) s3 ?_
    refine x_iload (q170c0 59 rfl) rfl ?_
    refine x_iadd (q170c1 0 rfl) s4 ?_
    refine x_aload_n (q170c1 1 rfl) rfl ?_
    refine x_getr (q170c1 2 rfl) fd56_4 ?_
    refine x_iload (q170c1 3 rfl) rfl ?_
    refine x_iaload (q170c1 4 rfl) (al59 _) rfl (ag_l rfl rfl (rfl)) s5 ?_
    refine x_iastore (q170c1 5 rfl) (al73 _) rfl (Nat.le_of_ble_eq_true rfl) s6 (j := 12 * x4 + x5) rfl ?_
    refine x_iinc (q170c1 6 rfl) rfl ⟨Nat.le_of_ble_eq_true rfl, trivial⟩ s7 ?_
    refine x_goto (q170c1 7 rfl) ?_
    exact H
theorem g_Mo_round_129 {h : am_H} {x1 : Int} {x2 : Int} {x3 : Int} {x4 : Int} {P : Int → am_H → Prop} (H : (h 57 0 ≤ x4 → (∃ a3 h2, am_cd 11 85 [.inl x2] h (some (.inl a3)) h2 ∧ ((x3 < a3 → (∃ h6, am_cd 11 84 [.inr (.inr 56), .inl x1, .inl x2, .inl 0, .inl 0] (am_up (am_up (am_up h2 56 27 a3) 56 26 x1) 56 25 (-1)) none h6 ∧ ((0 ≤ x3 → ((0 ≤ x3 ∧ x3 < 8) ∧ P (h6 75 x3) h6)) ∧ (x3 < 0 → P (h6 56 25) h6)))) ∧ (a3 ≤ x3 → ((am_ok (h2 56 3 + 1)) ∧ P (-100006) (am_up (am_up h2 56 27 a3) 56 3 (h2 56 3 + 1))))))) ∧ (x4 < h 57 0 → ((am_and (am_shr x2 x4) 1 ≠ 1 → ((am_ok (x4 + 1)) ∧ am_x (am_cd 11) 170 (am_qi P) 0 129 [some (.inr (.inr 56)), some (.inl x1), some (.inl x2), some (.inl x3), some (.inl (x4 + 1)), none] [] h)) ∧ (am_and (am_shr x2 x4) 1 = 1 → ((am_ok (12 * x1) ∧ am_ok (12 * x1 + x4) ∧ (0 ≤ 12 * x1 + x4 ∧ 12 * x1 + x4 < 144)) ∧ ((0 ≤ h 73 (12 * x1 + x4) → ((am_ok (x4 + 1)) ∧ am_x (am_cd 11) 170 (am_qi P) 0 129 [some (.inr (.inr 56)), some (.inl x1), some (.inl x2), some (.inl x3), some (.inl (x4 + 1)), none] [] h)) ∧ (h 73 (12 * x1 + x4) < 0 → ((am_ok (h 56 3 + 1)) ∧ P (-100008) (am_up h 56 3 (h 56 3 + 1)))))))))) : am_x (am_cd 11) 170 (am_qi P) 0 129 [some (.inr (.inr 56)), some (.inl x1), some (.inl x2), some (.inl x3), some (.inl x4), none] [] h := by
  refine x_iload (q170c1 12 rfl) rfl ?_
  refine x_aload_n (q170c1 13 rfl) rfl ?_
  refine x_getr (q170c1 14 rfl) fd56_0 ?_
  refine x_iconst (q170c1 15 rfl) ?_
  refine x_iaload (q170c1 16 rfl) (al57 _) rfl (ag_l rfl rfl (rfl)) (by decide) ?_
  refine x_icmp_ge (q170c1 17 rfl) (fun c1 => ?_) (fun c1 => ?_)
  · replace H := H.1 c1
    refine x_aload_n (q170c1 40 rfl) rfl ?_
    refine x_iload_n (q170c1 41 rfl) rfl ?_
    obtain ⟨a3, h2, w4, H⟩ := H
    refine x_csi (q170c1 42 rfl) rfl rfl rfl (Nat.le_of_ble_eq_true rfl) ⟨a3, h2, w4, ?_⟩
    refine x_putf (q170c1 43 rfl) fd56_27 ?_
    refine x_iload_n (q170c1 44 rfl) rfl ?_
    refine x_aload_n (q170c1 45 rfl) rfl ?_
    refine x_getf (q170c1 46 rfl) fd56_27 (up_s rfl) ?_
    refine x_icmp_lt (q170c1 47 rfl) (fun c5 => ?_) (fun c5 => ?_)
    · replace H := H.1 c5
      refine x_aload_n (q170c1 52 rfl) rfl ?_
      refine x_iload_n (q170c1 53 rfl) rfl ?_
      refine x_putf (q170c1 54 rfl) fd56_26 ?_
      refine x_aload_n (q170c1 55 rfl) rfl ?_
      refine x_iconst (q170c1 56 rfl) ?_
      refine x_putf (q170c1 57 rfl) fd56_25 ?_
      refine x_aload_n (q170c1 58 rfl) rfl ?_
      refine x_iload_n (q170c1 59 rfl) rfl ?_
      refine x_iload_n (q170c2 0 rfl) rfl ?_
      refine x_iconst (q170c2 1 rfl) ?_
      refine x_iconst (q170c2 2 rfl) ?_
      obtain ⟨h6, w7, H⟩ := H
      refine x_cvv (q170c2 3 rfl) rfl oc56 rfl (Nat.le_of_ble_eq_true rfl) ⟨h6, w7, ?_⟩
      refine x_iload_n (q170c2 4 rfl) rfl ?_
      refine x_if_ge (q170c2 5 rfl) (fun c8 => ?_) (fun c8 => ?_)
      · replace H := H.1 c8
        obtain ⟨s9, H⟩ := H
        refine x_aload_n (q170c2 9 rfl) rfl ?_
        refine x_getr (q170c2 10 rfl) fd56_24 ?_
        refine x_iload_n (q170c2 11 rfl) rfl ?_
        refine x_iaload (q170c2 12 rfl) (al75 _) rfl (ag_l rfl rfl (rfl)) s9 ?_
        exact x_ireti (q170c2 13 rfl) zb170 H
      · replace H := H.2 c8
        refine x_aload_n (q170c2 6 rfl) rfl ?_
        refine x_getf (q170c2 7 rfl) fd56_25 (rfl) ?_
        refine x_goto (q170c2 8 rfl) ?_
        exact x_ireti (q170c2 13 rfl) zb170 H
    · replace H := H.2 c5
      refine x_aload_n (q170c1 48 rfl) rfl ?_
      refine x_ldc (q170c1 49 rfl) ?_
      refine x_cvi (q170c1 50 rfl) rfl oc56 rfl (Nat.le_of_ble_eq_true rfl) (am_lifti (Nat.le_of_ble_eq_true rfl) (e_Mo_finds (r1 := h2 56 3) (up_i (by decide) (rfl)) ?_))
      obtain ⟨s10, H⟩ := H
      refine ⟨s10, ?_⟩
      exact x_ireti (q170c1 51 rfl) zb170 H
  · replace H := H.2 c1
    refine x_iload_n (q170c1 18 rfl) rfl ?_
    refine x_iload (q170c1 19 rfl) rfl ?_
    refine x_ishr (q170c1 20 rfl) ?_
    refine x_iconst (q170c1 21 rfl) ?_
    refine x_iand (q170c1 22 rfl) ?_
    refine x_iconst (q170c1 23 rfl) ?_
    refine x_icmp_ne (q170c1 24 rfl) (fun c11 => ?_) (fun c11 => ?_)
    · replace H := H.1 c11
      obtain ⟨s12, H⟩ := H
      refine x_iinc (q170c1 38 rfl) rfl ⟨Nat.le_of_ble_eq_true rfl, trivial⟩ s12 ?_
      refine x_goto (q170c1 39 rfl) ?_
      exact H
    · replace H := H.2 c11
      obtain ⟨⟨s13, s14, s15⟩, H⟩ := H
      refine x_aload_n (q170c1 25 rfl) rfl ?_
      refine x_getr (q170c1 26 rfl) fd56_22 ?_
      refine x_bipush (q170c1 27 rfl) ?_
      refine x_iload_n (q170c1 28 rfl) rfl ?_
      refine x_imul (q170c1 29 rfl) s13 ?_
      refine x_iload (q170c1 30 rfl) rfl ?_
      refine x_iadd (q170c1 31 rfl) s14 ?_
      refine x_iaload (q170c1 32 rfl) (al73 _) rfl (ag_l rfl rfl (rfl)) s15 ?_
      refine x_if_ge (q170c1 33 rfl) (fun c16 => ?_) (fun c16 => ?_)
      · replace H := H.1 c16
        obtain ⟨s17, H⟩ := H
        refine x_iinc (q170c1 38 rfl) rfl ⟨Nat.le_of_ble_eq_true rfl, trivial⟩ s17 ?_
        refine x_goto (q170c1 39 rfl) ?_
        exact H
      · replace H := H.2 c16
        refine x_aload_n (q170c1 34 rfl) rfl ?_
        refine x_ldc (q170c1 35 rfl) ?_
        refine x_cvi (q170c1 36 rfl) rfl oc56 rfl (Nat.le_of_ble_eq_true rfl) (am_lifti (Nat.le_of_ble_eq_true rfl) (e_Mo_finds (r1 := h 56 3) (rfl) ?_))
        obtain ⟨s18, H⟩ := H
        refine ⟨s18, ?_⟩
        exact x_ireti (q170c1 37 rfl) zb170 H
theorem e_Mo_spreadTo {h : am_H} {x1 : Int} {x2 : Int} {P : Int → am_H → Prop} (H : am_x (am_cd 2) 171 (am_qi P) 0 5 [some (.inr (.inr 56)), none, some (.inl x2), some (.inl x1), some (.inl 0)] [] h) : ∃ a h1, am_cd 3 171 [.inr (.inr 56), .inl x1, .inl x2] h (some (.inl a)) h1 ∧ P a h1 := by
  refine am_outi (d := 2) (ls := [some (.inr (.inr 56)), some (.inl x1), some (.inl x2), none, none]) rfl ab171 ml171 (Nat.le_of_ble_eq_true rfl) np171 rfl ?_
  refine x_iload_n (q171c0 0 rfl) rfl ?_
  refine x_istore_n (q171c0 1 rfl) ⟨Nat.le_of_ble_eq_true rfl, trivial⟩ ?_
  refine x_iconst (q171c0 2 rfl) ?_
  refine x_istore (q171c0 3 rfl) ⟨Nat.le_of_ble_eq_true rfl, trivial⟩ ?_
  exact am_x_weak (ls' := [some (.inr (.inr 56)), some (.inl x1), some (.inl x2), some (.inl x1), some (.inl 0)]) (lle_c (lle_d trivial (lle_c (lle_c (lle_c (lle_nil)))))) H
theorem g_Mo_spreadTo_5 {h : am_H} {x2 : Int} {x3 : Int} {x4 : Int} {P : Int → am_H → Prop} (H : (x2 ≤ x4 → P x3 h) ∧ (x4 < x2 → (∃ a3 h2, am_cd 2 134 [.inr (.inr 56), .inl x3] h (some (.inl a3)) h2 ∧ ((am_ok (x4 + 1)) ∧ am_x (am_cd 2) 171 (am_qi P) 0 5 [some (.inr (.inr 56)), none, some (.inl x2), some (.inl a3), some (.inl (x4 + 1))] [] h2)))) : am_x (am_cd 2) 171 (am_qi P) 0 5 [some (.inr (.inr 56)), none, some (.inl x2), some (.inl x3), some (.inl x4)] [] h := by
  refine x_iload (q171c0 4 rfl) rfl ?_
  refine x_iload_n (q171c0 5 rfl) rfl ?_
  refine x_icmp_ge (q171c0 6 rfl) (fun c1 => ?_) (fun c1 => ?_)
  · replace H := H.1 c1
    refine x_iload_n (q171c0 13 rfl) rfl ?_
    exact x_ireti (q171c0 14 rfl) zb171 H
  · replace H := H.2 c1
    refine x_aload_n (q171c0 7 rfl) rfl ?_
    refine x_iload_n (q171c0 8 rfl) rfl ?_
    obtain ⟨a3, h2, w4, H⟩ := H
    refine x_cvi (q171c0 9 rfl) rfl oc56 rfl (Nat.le_of_ble_eq_true rfl) ⟨a3, h2, w4, ?_⟩
    obtain ⟨s5, H⟩ := H
    refine x_istore_n (q171c0 10 rfl) ⟨Nat.le_of_ble_eq_true rfl, trivial⟩ ?_
    refine x_iinc (q171c0 11 rfl) rfl ⟨Nat.le_of_ble_eq_true rfl, trivial⟩ s5 ?_
    refine x_goto (q171c0 12 rfl) ?_
    exact H
