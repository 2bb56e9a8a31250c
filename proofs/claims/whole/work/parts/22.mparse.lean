/-! the reference reads texts -/
def ms (h0 h : am_H) (p k v0 v1 v2 v3 : Int) : Prop := (∀ q, q ≠ 56 → q ≠ 66 → h q = h0 q) ∧ (∀ j, j ≠ 15 → h 56 j = h0 56 j) ∧ h 56 15 = p ∧ (∀ j, j < 4 * k → h 66 j = h0 66 j) ∧ h 66 (4 * k) = v0 ∧ h 66 (1 + 4 * k) = v1 ∧ h 66 (2 + 4 * k) = v2 ∧ h 66 (3 + 4 * k) = v3
theorem ms_p {h0 h : am_H} {p k v0 v1 v2 v3 : Int} (M : ms h0 h p k v0 v1 v2 v3) (p' : Int) : ms h0 (am_up h 56 15 p') p' k v0 v1 v2 v3 := by
  obtain ⟨m1, m2, m3, m4, m5, m6, m7, m8⟩ := M
  refine ⟨fun q q1 q2 => (up_ne q1).trans (m1 q q1 q2), fun j hj => by rw [up_same, if_neg hj]; exact m2 j hj, by rw [up_same, if_pos rfl], fun j hj => by rw [up_ne (by decide)]; exact m4 j hj, ?_, ?_, ?_, ?_⟩
  · rw [up_ne (by decide)]; exact m5
  · rw [up_ne (by decide)]; exact m6
  · rw [up_ne (by decide)]; exact m7
  · rw [up_ne (by decide)]; exact m8
theorem ms_0 {h0 h : am_H} {p k v0 v1 v2 v3 : Int} (M : ms h0 h p k v0 v1 v2 v3) (v : Int) : ms h0 (am_up h 66 (4 * k) v) p k v v1 v2 v3 := by
  obtain ⟨m1, m2, m3, m4, m5, m6, m7, m8⟩ := M
  refine ⟨fun q q1 q2 => (up_ne q2).trans (m1 q q1 q2), fun j hj => by rw [up_ne (by decide)]; exact m2 j hj, by rw [up_ne (by decide)]; exact m3, fun j hj => by rw [up_same, if_neg (by omega)]; exact m4 j hj, ?_, ?_, ?_, ?_⟩
  · rw [up_same, if_pos rfl]
  · rw [up_same, if_neg (by omega)]; exact m6
  · rw [up_same, if_neg (by omega)]; exact m7
  · rw [up_same, if_neg (by omega)]; exact m8
theorem ms_1 {h0 h : am_H} {p k v0 v1 v2 v3 : Int} (M : ms h0 h p k v0 v1 v2 v3) (v : Int) : ms h0 (am_up h 66 (1 + 4 * k) v) p k v0 v v2 v3 := by
  obtain ⟨m1, m2, m3, m4, m5, m6, m7, m8⟩ := M
  refine ⟨fun q q1 q2 => (up_ne q2).trans (m1 q q1 q2), fun j hj => by rw [up_ne (by decide)]; exact m2 j hj, by rw [up_ne (by decide)]; exact m3, fun j hj => by rw [up_same, if_neg (by omega)]; exact m4 j hj, ?_, ?_, ?_, ?_⟩
  · rw [up_same, if_neg (by omega)]; exact m5
  · rw [up_same, if_pos rfl]
  · rw [up_same, if_neg (by omega)]; exact m7
  · rw [up_same, if_neg (by omega)]; exact m8
theorem ms_2 {h0 h : am_H} {p k v0 v1 v2 v3 : Int} (M : ms h0 h p k v0 v1 v2 v3) (v : Int) : ms h0 (am_up h 66 (2 + 4 * k) v) p k v0 v1 v v3 := by
  obtain ⟨m1, m2, m3, m4, m5, m6, m7, m8⟩ := M
  refine ⟨fun q q1 q2 => (up_ne q2).trans (m1 q q1 q2), fun j hj => by rw [up_ne (by decide)]; exact m2 j hj, by rw [up_ne (by decide)]; exact m3, fun j hj => by rw [up_same, if_neg (by omega)]; exact m4 j hj, ?_, ?_, ?_, ?_⟩
  · rw [up_same, if_neg (by omega)]; exact m5
  · rw [up_same, if_neg (by omega)]; exact m6
  · rw [up_same, if_pos rfl]
  · rw [up_same, if_neg (by omega)]; exact m8
theorem ms_3 {h0 h : am_H} {p k v0 v1 v2 v3 : Int} (M : ms h0 h p k v0 v1 v2 v3) (v : Int) : ms h0 (am_up h 66 (3 + 4 * k) v) p k v0 v1 v2 v := by
  obtain ⟨m1, m2, m3, m4, m5, m6, m7, m8⟩ := M
  refine ⟨fun q q1 q2 => (up_ne q2).trans (m1 q q1 q2), fun j hj => by rw [up_ne (by decide)]; exact m2 j hj, by rw [up_ne (by decide)]; exact m3, fun j hj => by rw [up_same, if_neg (by omega)]; exact m4 j hj, ?_, ?_, ?_, ?_⟩
  · rw [up_same, if_neg (by omega)]; exact m5
  · rw [up_same, if_neg (by omega)]; exact m6
  · rw [up_same, if_neg (by omega)]; exact m7
  · rw [up_same, if_pos rfl]
theorem T_takes {h0 h : am_H} {p k v0 v1 v2 v3 b e : Int} {tp : Int → Int} {P : Int → am_H → Prop} (et : h0 63 = tp) (ee : h0 56 14 = e) (e1 : e ≤ 80) (p0 : 0 ≤ p) (M : ms h0 h p k v0 v1 v2 v3) (H1 : ∀ h1, ms h0 h1 (p + 1) k v0 v1 v2 v3 → p < e → tp p = b → P 1 h1) (H0 : (p < e → tp p ≠ b) → P 0 h) : ∃ a_ h_, am_cd 1 81 [.inr (.inr 56), .inl b] h (some (.inl a_)) h_ ∧ P a_ h_ := by
  have x1 : h 56 14 = e := (M.2.1 14 (by decide)).trans ee
  have x2 : h 56 15 = p := M.2.2.1
  have x3 : h 63 = tp := (M.1 63 (by decide) (by decide)).trans et
  refine e_Mo_takes ?_
  rw [x1, x2, x3]
  exact ⟨fun c => H0 (fun q => by omega), fun c => ⟨by omega, fun q => ⟨by omega, H1 _ (ms_p M _) c q⟩, fun q => H0 (fun _ => q)⟩⟩
abbrev okc (x b : Int) : Prop := (97 ≤ b ∧ b ≤ 122) ∨ (x = 0 ∧ b = 48) ∨ (x ≠ 0 ∧ (b = 35 ∨ b = 42))
theorem T_takesOne {h0 h : am_H} {p k v0 v1 v2 v3 x e : Int} {tp : Int → Int} {P : Int → am_H → Prop} (et : h0 63 = tp) (ee : h0 56 14 = e) (e1 : e ≤ 80) (p0 : 0 ≤ p) (M : ms h0 h p k v0 v1 v2 v3) (H1 : ∀ h1, ms h0 h1 (p + 1) k v0 v1 v2 v3 → p < e → okc x (tp p) → P (sg (tp p)) h1) (H0 : ∀ h1, ms h0 h1 p k v0 v1 v2 v3 → (p < e → ¬ okc x (tp p)) → P (-2) h1) (px : p ≤ 80) : ∃ a_ h_, am_cd 2 129 [.inr (.inr 56), .inl x] h (some (.inl a_)) h_ ∧ P a_ h_ := by
  have x1 : h 56 14 = e := (M.2.1 14 (by decide)).trans ee
  have x2 : h 56 15 = p := M.2.2.1
  have x3 : h 63 = tp := (M.1 63 (by decide) (by decide)).trans et
  refine e_Mo_takesOne ?_
  rw [x1, x2, x3]
  have M0 : ms h0 (am_up h 56 15 (p + 0)) p k v0 v1 v2 v3 := by
    have := ms_p M (p + 0)
    rw [show p + 0 = p by omega] at this ⊢
    exact this
  have M1 := ms_p M (p + 1)
  refine ⟨fun c => ⟨fun q => by omega, fun _ => ⟨fun _ => ⟨by omega, H0 _ M0 (fun q => by omega)⟩, fun _ => ⟨by omega, H0 _ M0 (fun q => by omega)⟩⟩⟩, fun c => ⟨by omega, fun q => ⟨by omega, fun _ => ⟨by omega, ?_⟩, fun q2 => by omega⟩, fun q => ⟨fun z => ⟨fun a => ⟨fun b => ⟨by omega, H0 _ M0 (fun _ y => by omega)⟩, fun b => ⟨by omega, ?_⟩⟩, fun a => ⟨by omega, ?_⟩⟩, fun z => ⟨fun a => ⟨by omega, H0 _ M0 (fun _ y => by omega)⟩, fun a => ⟨by omega, ?_⟩⟩⟩⟩⟩
  · have := H1 _ M1 c (.inl q)
    unfold sg at this
    rw [if_pos q] at this; exact this
  · have := H1 _ M1 c (.inr (.inr ⟨z, .inr b⟩))
    unfold sg at this
    rw [if_neg q, if_neg a, if_pos b] at this; exact this
  · have := H1 _ M1 c (.inr (.inr ⟨z, .inl a⟩))
    unfold sg at this
    rw [if_neg q, if_pos a] at this; exact this
  · have := H1 _ M1 c (.inr (.inl ⟨z, a⟩))
    unfold sg at this
    rw [if_neg q, if_neg (by omega), if_neg (by omega)] at this; exact this
theorem sg_2 (b : Int) : sg b ≠ -2 := by
  unfold sg
  split
  · omega
  · split
    · omega
    · split <;> omega
/-- what a reading of one change has done: k its number, p where it began -/
def rdd (tp : Int → Int) (h0 h : am_H) (p k : Int) : Prop := (∀ q, q ≠ 56 → q ≠ 66 → h q = h0 q) ∧ (∀ j, j ≠ 15 → h 56 j = h0 56 j) ∧ h 56 15 = p + ln tp p ∧ (∀ j, j < 4 * k → h 66 j = h0 66 j) ∧ h 66 (4 * k) = ent tp p 0 ∧ h 66 (1 + 4 * k) = ent tp p 1 ∧ h 66 (2 + 4 * k) = ent tp p 2 ∧ h 66 (3 + 4 * k) = ent tp p 3
theorem S_Mreads {h0 : am_H} {p k e : Int} {tp : Int → Int} {P : Int → am_H → Prop} (et : h0 63 = tp) (ee : h0 56 14 = e) (e1 : e ≤ 80) (p0 : 0 ≤ p) (pe : p < e) (k0 : 0 ≤ k) (k1 : k ≤ 12) (hp : h0 56 15 = p) (H1 : ∀ h1, rdd tp h0 h1 p k → p + ln tp p ≤ e → k ≠ 12 → flp tp e p 0 k = flp tp e (p + ln tp p) 0 (k + 1) → -1 ≤ ent tp p 1 ∧ ent tp p 1 ≤ 25 → P 1 h1) (H0 : ∀ h1, (∀ q, q ≠ 56 → q ≠ 66 → h1 q = h0 q) → (∀ j, j ≠ 15 → h1 56 j = h0 56 j) → h1 56 15 = flp tp e p 0 k → 0 ≤ h1 56 15 → P 0 h1) : ∃ a_ h_, am_cd 3 168 [.inr (.inr 56), .inl k] h0 (some (.inl a_)) h_ ∧ P a_ h_ := by
  have E0 : ∀ {h : am_H} {q v0 v1 v2 v3 : Int}, ms h0 h q k v0 v1 v2 v3 → flp tp e p 0 k = q → 0 ≤ q → P 0 h := fun M e q => H0 _ M.1 M.2.1 (M.2.2.1.trans e.symm) (M.2.2.1 ▸ q)
  refine e_Mo_reads ?_
  rw [ee, hp, et]
  refine ⟨fun c => by omega, fun _ => ⟨by omega, fun c => H0 h0 (fun _ _ _ => rfl) (fun _ _ => rfl) ?_ (by omega), fun kn => ⟨fun t0 => ⟨⟨by omega, by omega, by omega, by omega⟩, ?_⟩, fun t0 => H0 h0 (fun _ _ _ => rfl) (fun _ _ => rfl) ?_ (by omega)⟩⟩⟩
  · rw [hp, flp_s pe, if_pos c]
  · have F1 : flp tp e p 0 k = flp tp e (p + 1) 1 k := flp_ok pe kn (by unfold cs; simp; omega) (by omega)
    have M0 : ms h0 (am_up (am_up h0 56 15 (p + 1)) 66 (4 * k) (tp p - 97)) (p + 1) k (tp p - 97) (h0 66 (1 + 4 * k)) (h0 66 (2 + 4 * k)) (h0 66 (3 + 4 * k)) := ms_0 (ms_p (p := p) ⟨fun _ _ _ => rfl, fun _ _ => rfl, hp, fun _ _ => rfl, rfl, rfl, rfl, rfl⟩ (p + 1)) (tp p - 97)
    refine am_lifti (Nat.le_of_ble_eq_true rfl) (T_takes et ee e1 (by omega) M0 (fun h1 M1 b1 t1 => ⟨fun _ => ⟨by omega, ?_⟩, fun z => by omega⟩) (fun z => ⟨fun q => absurd rfl q, fun _ => E0 M0 ?_ (by omega)⟩))
    · have F2 : flp tp e p 0 k = flp tp e (p + 2) 2 k := by rw [F1, flp_ok b1 kn (by unfold cs; simp [t1]) (by omega), show p + 1 + 1 = p + 2 by omega]; rfl
      rw [show p + 1 + 1 = p + 2 by omega] at M1
      refine am_lifti (Nat.le_of_ble_eq_true rfl) (T_takesOne et ee e1 (by omega) M1 (fun h2 M2 b2 t2 => ⟨by omega, fun _ => ⟨⟨by omega, by omega, by omega, by omega⟩, ?_⟩, fun z => absurd z (sg_2 _)⟩) (fun h2 M2 z => ⟨by omega, fun q => absurd rfl q, fun _ => E0 (ms_1 M2 (-2)) ?_ (by omega)⟩) (by omega))
      · have F3 : flp tp e p 0 k = flp tp e (p + 3) 3 k := by rw [F2, flp_ok b2 kn (by unfold cs; simp; omega) (by omega), show p + 2 + 1 = p + 3 by omega]; rfl
        rw [show p + 2 + 1 = p + 3 by omega] at M2
        have M3 := ms_3 (ms_2 (ms_1 M2 (sg (tp (p + 2)))) 27) 27
        have x0 : tp p - 97 = ent tp p 0 := by unfold ent sg; rw [if_pos rfl, if_pos t0]
        have x1 : sg (tp (p + 2)) = ent tp p 1 := by unfold ent; rw [if_neg (by omega), if_pos rfl]
        have x1r : -1 ≤ ent tp p 1 ∧ ent tp p 1 ≤ 25 := by
          rw [← x1]
          unfold sg
          split
          · omega
          · rw [if_neg (by omega), if_neg (by omega)]; omega
        refine am_lifti (Nat.le_of_ble_eq_true rfl) (T_takes et ee e1 (by omega) M3 (fun h3 M4 b3 t3 => ⟨fun z => by omega, fun _ => ?_⟩) (fun t3 => ⟨fun _ => ?_, fun q => absurd rfl q⟩))
        · have el : ln tp p = 8 := by unfold ln; rw [if_pos t3]
          have F4 : flp tp e p 0 k = flp tp e (p + 4) 4 k := by rw [F3, flp_ok b3 kn (by unfold cs; simp [t3]) (by omega), show p + 3 + 1 = p + 4 by omega]; rfl
          rw [show p + 3 + 1 = p + 4 by omega] at M4
          refine am_lifti (Nat.le_of_ble_eq_true rfl) (T_takesOne et ee e1 (by omega) M4 (fun h4 M5 b4 t4 => ⟨fun z => absurd z (sg_2 _), fun _ => ?_⟩) (fun h4 M5 z => ⟨fun _ => E0 (ms_2 M5 (-2)) ?_ (by omega), fun q => absurd rfl q⟩) (by omega))
          · have F5 : flp tp e p 0 k = flp tp e (p + 5) 5 k := by rw [F4, flp_ok b4 kn (by unfold cs; simp; omega) (by omega), show p + 4 + 1 = p + 5 by omega]; rfl
            rw [show p + 4 + 1 = p + 5 by omega] at M5
            have M6 := ms_2 M5 (sg (tp (p + 4)))
            have x2 : sg (tp (p + 4)) = ent tp p 2 := by unfold ent; rw [if_neg (by omega), if_neg (by omega), if_pos rfl, if_pos t3]
            refine am_lifti (Nat.le_of_ble_eq_true rfl) (T_takes et ee e1 (by omega) M6 (fun h5 M7 b5 t5 => ⟨fun _ => ?_, fun z => by omega⟩) (fun z => ⟨fun q => absurd rfl q, fun _ => E0 M6 ?_ (by omega)⟩))
            · have F6 : flp tp e p 0 k = flp tp e (p + 6) 6 k := by rw [F5, flp_ok b5 kn (by unfold cs; simp [t5]) (by omega), show p + 5 + 1 = p + 6 by omega]; rfl
              rw [show p + 5 + 1 = p + 6 by omega] at M7
              refine am_lifti (Nat.le_of_ble_eq_true rfl) (T_takesOne et ee e1 (by omega) M7 (fun h6 M8 b6 t6 => ⟨fun _ => ?_, fun z => absurd z (sg_2 _)⟩) (fun h6 M8 z => ⟨fun q => absurd rfl q, fun _ => E0 (ms_3 M8 (-2)) ?_ (by omega)⟩) (by omega))
              · have F7 : flp tp e p 0 k = flp tp e (p + 7) 7 k := by rw [F6, flp_ok b6 kn (by unfold cs; simp; omega) (by omega), show p + 6 + 1 = p + 7 by omega]; rfl
                rw [show p + 6 + 1 = p + 7 by omega] at M8
                have M9 := ms_3 M8 (sg (tp (p + 6)))
                have x3 : sg (tp (p + 6)) = ent tp p 3 := by unfold ent; rw [if_neg (by omega), if_neg (by omega), if_neg (by omega), if_pos t3]
                refine am_lifti (Nat.le_of_ble_eq_true rfl) (T_takes et ee e1 (by omega) M9 (fun h7 M10 b7 t7 => ⟨.inr rfl, H1 h7 ?_ (by omega) kn ?_ x1r⟩) (fun z => ⟨.inl rfl, E0 M9 ?_ (by omega)⟩))
                · rw [x0, x1, x2, x3] at M10
                  rw [show p + 7 + 1 = p + ln tp p by omega] at M10
                  exact M10
                · rw [el, F7, flp_end b7 kn (by unfold cs; simp [t7]) t7, show p + 7 + 1 = p + 8 by omega]
                · rw [F7]; exact flp_bad (by omega) (by omega) (fun q => by have := z q; unfold cs; simp; omega)
              · rw [F6]; exact flp_bad (by omega) (by omega) (fun q => by have := z q; unfold cs; simp; omega)
            · rw [F5]; exact flp_bad (by omega) (by omega) (fun q => by have := z q; unfold cs; simp; omega)
          · rw [F4]; exact flp_bad (by omega) (by omega) (fun q => by have := z q; unfold cs; simp; omega)
        · refine am_lifti (Nat.le_of_ble_eq_true rfl) (T_takes et ee e1 (by omega) M3 (fun h4 M4 b4 t4 => ⟨.inr rfl, ?_⟩) (fun z => ⟨.inl rfl, E0 M3 ?_ (by omega)⟩))
          · have el : ln tp p = 4 := by unfold ln; rw [if_neg (by omega)]
            have x2 : (27 : Int) = ent tp p 2 := by unfold ent; rw [if_neg (by omega), if_neg (by omega), if_pos rfl, if_neg (by omega)]
            have x3 : (27 : Int) = ent tp p 3 := by unfold ent; rw [if_neg (by omega), if_neg (by omega), if_neg (by omega), if_neg (by omega)]
            refine H1 h4 ?_ (by omega) kn ?_ x1r
            · obtain ⟨m1, m2, m3, m4, m5, m6, m7, m8⟩ := M4
              exact ⟨m1, m2, by omega, m4, m5.trans x0, m6.trans x1, m7.trans x2, m8.trans x3⟩
            · rw [el, F3, flp_end b4 kn (by unfold cs; simp [t4]) t4, show p + 3 + 1 = p + 4 by omega]
          · rw [F3]; exact flp_bad (by omega) (by omega) (fun q => by have := z q; have := t3 q; unfold cs; simp; omega)
      · rw [F2]; exact flp_bad (by omega) (by omega) (fun q => by have := z q; unfold cs; simp; omega)
    · rw [F1]; exact flp_bad (by omega) (by omega) (fun q => by have := z q; unfold cs; simp; omega)
  · rw [hp, flp_s pe, if_neg kn, if_neg (by unfold cs; simp; omega)]
def tJ (tp : Int → Int) (h0 h : am_H) (n : Int) : Prop := (∀ q, q ≠ 56 → q ≠ 66 → h q = h0 q) ∧ (∀ j, j ≠ 15 → h 56 j = h0 56 j) ∧ ∀ c, 0 ≤ c → c < n → h 66 (4 * c) = TT tp c 0 ∧ h 66 (1 + 4 * c) = TT tp c 1 ∧ h 66 (2 + 4 * c) = TT tp c 2 ∧ h 66 (3 + 4 * c) = TT tp c 3
theorem L_Mtext76 {h0 : am_H} {t n : Int} {P : Int → am_H → Prop} (t0 : 0 ≤ t) (t1 : t < 4) (n0 : 0 ≤ n) (n1 : n ≤ 12) (H : ∀ h1, (∀ p, p ≠ 65 → h1 p = h0 p) → (∀ j, h1 65 j = if 48 * t ≤ j ∧ j < 48 * t + 4 * n then h0 66 (j - 48 * t) else h0 65 j) → P (-1) h1) : ∀ x4 h, 0 ≤ x4 → x4 ≤ 4 * n → (∀ p, p ≠ 65 → h p = h0 p) → (∀ j, h 65 j = if 48 * t ≤ j ∧ j < 48 * t + x4 then h0 66 (j - 48 * t) else h0 65 j) → am_x (am_cd 3) 192 (am_qi P) 0 76 [some (.inr (.inr 56)), some (.inl t), some (.inl n), none, some (.inl x4)] [] h := by
  refine upto (4 * n) (fun x4 ih h a0 a1 a2 a3 => ?_)
  refine g_Mo_text_76 ⟨by omega, fun hc => H h a2 (fun j => by rw [a3 j, show x4 = 4 * n by omega]), fun hc => ⟨⟨by omega, by omega, by omega, by omega, by omega⟩, ih hc _ (by omega) (by omega) (fun p hp => (up_ne hp).trans (a2 p hp)) (fun j => ?_)⟩⟩
  rw [up_same]
  by_cases q : j = 48 * t + x4
  · rw [if_pos q, if_pos (by omega), a2 66 (by decide), show j - 48 * t = x4 by omega]
  · rw [if_neg q, a3 j]
    by_cases k : 48 * t ≤ j ∧ j < 48 * t + x4
    · rw [if_pos k, if_pos (by omega)]
    · rw [if_neg k, if_neg (by omega)]
theorem L_Mtext25 {h0 : am_H} {tp : Int → Int} {t e : Int} {P : Int → am_H → Prop} (et : h0 63 = tp) (ee : h0 56 14 = e) (e0 : 0 ≤ e) (e1 : e ≤ 80) (t0 : 0 ≤ t) (t1 : t < 4) (H0 : ∀ h1 r, (∀ q, q ≠ 56 → q ≠ 66 → h1 q = h0 q) → (∀ j, j ≠ 14 → j ≠ 15 → h1 56 j = h0 56 j) → h1 56 14 = 0 → r = flp tp e 0 0 0 → 0 ≤ r → P r h1) (H1 : ∀ h1 n, 0 ≤ n → n ≤ 12 → psn tp n.toNat = e → (∀ q, q ≠ 56 → q ≠ 64 → q ≠ 65 → q ≠ 66 → h1 q = h0 q) → (∀ j, j ≠ 14 → j ≠ 15 → h1 56 j = h0 56 j) → h1 56 14 = 0 → (∀ j, h1 64 j = if j = t then n else h0 64 j) → (∀ c, 0 ≤ c → c < n → h1 65 (48 * t + 4 * c) = TT tp c 0 ∧ h1 65 (1 + (48 * t + 4 * c)) = TT tp c 1 ∧ h1 65 (2 + (48 * t + 4 * c)) = TT tp c 2 ∧ h1 65 (3 + (48 * t + 4 * c)) = TT tp c 3) → (∀ j, (j < 48 * t ∨ 48 * t + 48 ≤ j) → h1 65 j = h0 65 j) → flp tp e 0 0 0 = -1 → P (-1) h1) : ∀ x2 h, 0 ≤ x2 → x2 ≤ 12 → tJ tp h0 h x2 → h 56 15 = psn tp x2.toNat → psn tp x2.toNat ≤ e → flp tp e (psn tp x2.toNat) 0 x2 = flp tp e 0 0 0 → am_x (am_cd 3) 192 (am_qi P) 0 25 [some (.inr (.inr 56)), some (.inl t), some (.inl x2), some (.inl 1), none] [] h := by
  have fin : ∀ h r, (∀ q, q ≠ 56 → q ≠ 66 → h q = h0 q) → (∀ j, j ≠ 15 → h 56 j = h0 56 j) → h 56 15 = r → r = flp tp e 0 0 0 → 0 ≤ r → ∀ x2, am_x (am_cd 3) 192 (am_qi P) 0 25 [some (.inr (.inr 56)), some (.inl t), some (.inl x2), some (.inl 0), none] [] h := by
    intro h r k1 k2 k3 k4 k5 x2
    refine g_Mo_text_25 ⟨fun _ => ?_, fun q => absurd rfl q⟩
    rw [k3]
    exact H0 _ r (fun q q1 q2 => (up_ne q1).trans (k1 q q1 q2)) (fun j j1 j2 => by rw [up_same, if_neg j1]; exact k2 j j2) (by rw [up_same, if_pos rfl]) k4 k5
  refine upto 13 (fun x2 ih h a0 a1 J a3 a4 a5 => ?_)
  have x14 : h 56 14 = e := (J.2.1 14 (by decide)).trans ee
  have x63 : h 63 = tp := (J.1 63 (by decide) (by decide)).trans et
  have p0 : 0 ≤ psn tp x2.toNat := by have := psn_mono tp x2.toNat 0; rw [Nat.zero_add] at this; have z : psn tp 0 = 0 := rfl; omega
  refine g_Mo_text_25 ⟨fun q => by omega, fun _ => ?_⟩
  rw [x14, a3]
  refine ⟨fun hc => ⟨by omega, ?_⟩, fun hc => ?_⟩
  · have pe : psn tp x2.toNat = e := by omega
    rw [pe, flp_e (Int.le_refl _), if_pos rfl] at a5
    refine L_Mtext76 (h0 := am_up (am_up h 56 14 0) 64 t x2) t0 t1 a0 a1 (fun h1 b2 b3 => H1 h1 x2 a0 a1 pe (fun q q1 q2 q3 q4 => ?_) (fun j j1 j2 => ?_) ?_ (fun j => ?_) (fun c c0 c1 => ?_) (fun j hj => ?_) a5.symm) 0 _ (by omega) (by omega) (fun _ _ => rfl) (fun j => by rw [if_neg (by omega)])
    · rw [b2 q q3, up_ne q2, up_ne q1]; exact J.1 q q1 q4
    · rw [b2 56 (by decide), up_ne (by decide), up_same, if_neg j1]; exact J.2.1 j j2
    · rw [b2 56 (by decide), up_ne (by decide), up_same, if_pos rfl]
    · rw [b2 64 (by decide), up_same, up_ne (by decide), J.1 64 (by decide) (by decide)]
    · obtain ⟨w0, w1, w2, w3⟩ := J.2.2 c c0 c1
      rw [b3, b3, b3, b3, if_pos (by omega), if_pos (by omega), if_pos (by omega), if_pos (by omega), up_ne (by decide), up_ne (by decide), show 48 * t + 4 * c - 48 * t = 4 * c by omega, show 1 + (48 * t + 4 * c) - 48 * t = 1 + 4 * c by omega, show 2 + (48 * t + 4 * c) - 48 * t = 2 + 4 * c by omega, show 3 + (48 * t + 4 * c) - 48 * t = 3 + 4 * c by omega]
      exact ⟨w0, w1, w2, w3⟩
    · rw [b3 j, if_neg (by omega), up_ne (by decide), up_ne (by decide), J.1 65 (by decide) (by decide)]
  · refine am_lifti (Nat.le_of_ble_eq_true rfl) (S_Mreads x63 x14 e1 p0 hc a0 a1 a3 (fun h1 R b1 b2 b3 b4 => ⟨by omega, ih (by omega) h1 (by omega) (by omega) ⟨fun q q1 q2 => (R.1 q q1 q2).trans (J.1 q q1 q2), fun j hj => (R.2.1 j hj).trans (J.2.1 j hj), fun c c0 c1 => ?_⟩ (by rw [psn_s a0]; exact R.2.2.1) (by rw [psn_s a0]; exact b1) (by rw [psn_s a0, ← b3]; exact a5)⟩) (fun h1 k1 k2 k3 k4 => ⟨by omega, fin h1 _ (fun q q1 q2 => (k1 q q1 q2).trans (J.1 q q1 q2)) (fun j hj => (k2 j hj).trans (J.2.1 j hj)) k3 a5 (by omega) _⟩))
    · rcases (show c < x2 ∨ c = x2 by omega) with z | z
      · rw [R.2.2.2.1 _ (by omega), R.2.2.2.1 _ (by omega), R.2.2.2.1 _ (by omega), R.2.2.2.1 _ (by omega)]
        exact J.2.2 c c0 z
      · rw [z]; exact R.2.2.2.2
theorem S_Mtext {h : am_H} {tp : Int → Int} {t e : Int} {P : Int → am_H → Prop} (et : h 63 = tp) (ee : h 56 14 = e) (e0 : 0 ≤ e) (e1 : e ≤ 80) (t0 : 0 ≤ t) (t1 : t < 4) (H0 : ∀ h1 r, (∀ q, q ≠ 56 → q ≠ 66 → h1 q = h q) → (∀ j, j ≠ 14 → j ≠ 15 → h1 56 j = h 56 j) → h1 56 14 = 0 → r = flp tp e 0 0 0 → 0 ≤ r → P r h1) (H1 : ∀ h1 n, 0 ≤ n → n ≤ 12 → psn tp n.toNat = e → (∀ q, q ≠ 56 → q ≠ 64 → q ≠ 65 → q ≠ 66 → h1 q = h q) → (∀ j, j ≠ 14 → j ≠ 15 → h1 56 j = h 56 j) → h1 56 14 = 0 → (∀ j, h1 64 j = if j = t then n else h 64 j) → (∀ c, 0 ≤ c → c < n → h1 65 (48 * t + 4 * c) = TT tp c 0 ∧ h1 65 (1 + (48 * t + 4 * c)) = TT tp c 1 ∧ h1 65 (2 + (48 * t + 4 * c)) = TT tp c 2 ∧ h1 65 (3 + (48 * t + 4 * c)) = TT tp c 3) → (∀ j, (j < 48 * t ∨ 48 * t + 48 ≤ j) → h1 65 j = h 65 j) → flp tp e 0 0 0 = -1 → P (-1) h1) : ∃ a_ h_, am_cd 4 192 [.inr (.inr 56), .inl t] h (some (.inl a_)) h_ ∧ P a_ h_ := by
  refine e_Mo_text ⟨fun _ => ?_, fun q => by omega⟩
  have u14 : am_up h 56 15 0 56 14 = e := by rw [up_same, if_neg (by decide)]; exact ee
  refine L_Mtext25 (h0 := am_up h 56 15 0) ((up_ne (by decide)).trans et) u14 e0 e1 t0 t1 (fun h1 r k1 k2 k3 k4 k5 => H0 h1 r (fun q q1 q2 => (k1 q q1 q2).trans (up_ne q1)) (fun j j1 j2 => by rw [k2 j j1 j2, up_same, if_neg j2]) k3 k4 k5) (fun h1 n n0 n1 pn k1 k2 k3 k4 k5 k6 k7 => H1 h1 n n0 n1 pn (fun q q1 q2 q3 q4 => (k1 q q1 q2 q3 q4).trans (up_ne q1)) (fun j j1 j2 => by rw [k2 j j1 j2, up_same, if_neg j2]) k3 (fun j => by rw [k4 j, up_ne (by decide)]) k5 (fun j hj => by rw [k6 j hj, up_ne (by decide)]) k7) 0 _ (by omega) (by omega) ⟨fun _ _ _ => rfl, fun _ _ => rfl, fun c _ _ => by omega⟩ ?_ e0 rfl
  rw [up_same, if_pos rfl]; rfl
