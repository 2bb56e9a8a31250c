/-! the search as a whole; sheets judged; the reference's search -/
theorem S_search {N : Int → Int} {h : am_H} {k d : Int} {P : am_H → Prop} (L : OL N) (O : OP N) (F : OF N) (C : OA N) (hn : N 0 ≤ 10) (k0 : 0 < k) (k1 : k ≤ 4) (LL : LR h N) (R : FR h N) (PP : PR h N) (AA : AR h N) (M : MR h N) (H : ∀ h1, (∀ p, p ≠ 15 → p ≠ 16 → p ≠ 23 → p ≠ 33 → p ≠ 34 → p ≠ 35 → p ≠ 36 → p ≠ 37 → p ≠ 38 → h1 p = h p) → MR h1 N → h1 33 8 = (opt (dst N d) k (N 0).toNat 0 0 (fun _ => 0)).1 → (∀ u, 0 ≤ u → u < N 0 → h1 38 u = (opt (dst N d) k (N 0).toNat 0 0 (fun _ => 0)).2 u) → P h1) : ∃ h_, am_cd 16 220 [.inr (.inr 33), .inl k, .inl d] h none h_ ∧ P h_ := by
  have A : OD (dst N d) := fun u v => dst_bd F
  have lN := L.1
  refine e_Dialects_search (am_liftv (Nat.le_of_ble_eq_true rfl) (S_begin (d := d) L O F C hn LL R PP AA M (fun h1 b1 M1 n1 z1 w1 => ?_)))
  have g : ∀ p, p ≠ 33 → am_up h1 33 8 1000000 p = h1 p := fun p hp => up_ne hp
  have o0 := opt_0 (k := k) A (N 0).toNat 0 0 (fun _ => 0) (by omega)
  have ou := opt_ub A k0 (N 0).toNat 0 0 (fun _ => 0) (by omega) (by omega) (by omega)
  have ue : ∀ R', up0 1000000 R' 0 (opt (dst N d) k (N 0).toNat 0 0 (fun _ => 0)) = opt (dst N d) k (N 0).toNat 0 0 (fun _ => 0) := by
    intro R'
    unfold up0
    rw [if_pos (by omega)]
    show (0 + _, _) = _
    rw [Int.zero_add]
  refine am_liftv (d := 15) (D := 12 + 3) (by omega) (S_part A hn k0 k1 (N 0).toNat 12 0 0 0 1000000 (fun _ => 0) (h1 38) (am_up h1 33 8 1000000) _ (by omega) (by omega) (by omega) (by omega) (by omega) (by omega) (by omega) ⟨by rw [up_same, if_neg (by decide)]; exact n1, fun u v u0 u1 v1 => by rw [g 35 (by decide)]; exact w1 u v u0 u1 v1⟩ (fun u e u0 u1 e0 e1 => ?_) (fun u e u0 u1 e0 e1 => ?_) (fun u _ _ => by omega) (by rw [up_same, if_pos rfl]) (by omega) (fun u _ _ => by rw [g 38 (by decide)]) (fun h2 p2 q1 q2 => ?_))
  · rw [g 36 (by decide), z1 _ (by omega) (by omega)]; exact (su_0 (by omega)).symm
  · rw [g 36 (by decide), z1 _ (by omega) (by omega)]; omega
  · rw [ue] at q1 q2
    exact H h2 (fun p p1 p2' p3 p4 p5 p6 p7 p8 p9 => (p2.1 p p4 p7 p8 p9).trans ((g p p4).trans (b1.1 p p1 p2' p3 p4 p5 p6 p7))) (MR_of ((p2.1 15 (by decide) (by decide) (by decide) (by decide)).trans (g 15 (by decide))) M1) q1 q2
/-! a row on a sheet -/
def ju (x : Int → Int) : Nat → Int
  | 0 => 0
  | v + 1 => max (ju x v) (x v + 1)
def js (A : Int → Int → Int) (x : Int → Int) : Nat → Int
  | 0 => 0
  | v + 1 => js A x v + pcs A v (x v) x (ju x v)
theorem ju_s {x : Int → Int} {v : Int} (h : 0 ≤ v) : ju x (v + 1).toNat = max (ju x v.toNat) (x v + 1) := by
  rw [show (v + 1).toNat = v.toNat + 1 by omega]
  show max (ju x v.toNat) (x (v.toNat : Int) + 1) = _
  rw [show ((v.toNat : Nat) : Int) = v by omega]
theorem js_s {A : Int → Int → Int} {x : Int → Int} {v : Int} (h : 0 ≤ v) : js A x (v + 1).toNat = js A x v.toNat + pcs A v (x v) x (ju x v.toNat) := by
  rw [show (v + 1).toNat = v.toNat + 1 by omega]
  show js A x v.toNat + pcs A (v.toNat : Int) (x (v.toNat : Int)) x (ju x v.toNat) = _
  rw [show ((v.toNat : Nat) : Int) = v by omega]
theorem js_bd {A : Int → Int → Int} {x : Int → Int} (O : OD A) : ∀ v : Nat, v ≤ 10 → 0 ≤ js A x v ∧ js A x v ≤ 2000 * v
  | 0, _ => by show (0 : Int) ≤ 0 ∧ (0 : Int) ≤ 2000 * ((0 : Nat) : Int); omega
  | v + 1, hv => by
    have ih := js_bd (x := x) O v (by omega)
    have := Sc_bd (u := v) (d := x v) (r := x) O (show (0 : Int) ≤ v by omega)
    show 0 ≤ js A x v + pcs A v (x v) x (ju x v) ∧ js A x v + pcs A v (x v) x (ju x v) ≤ 2000 * ((v + 1 : Nat) : Int)
    unfold pcs
    split <;> omega
abbrev jbad (x : Int → Int) (v : Int) : Prop := x v < 0 ∨ ju x v.toNat < x v ∨ 4 ≤ x v
def jR (A : Int → Int → Int) (nv sz : Int) (x : Int → Int) (most r : Int) : Prop := (∃ v, 0 ≤ v ∧ v < nv ∧ v < sz ∧ jbad x v ∧ (∀ u, 0 ≤ u → u < v → ¬ jbad x u) ∧ r = v) ∨ ((∀ u, 0 ≤ u → u < nv → u < sz → ¬ jbad x u) ∧ r = if sz = nv then (if js A x nv.toNat ≤ most then -1 else 100) else sz)
theorem jR_one {A : Int → Int → Int} {nv sz most r r' : Int} {x : Int → Int} (a : jR A nv sz x most r) (b : jR A nv sz x most r') : r = r' := by
  rcases a with ⟨v, a1, a2, a3, a4, a5, a6⟩ | ⟨a1, a2⟩ <;> rcases b with ⟨w, b1, b2, b3, b4, b5, b6⟩ | ⟨b1, b2⟩
  · rcases (show v < w ∨ w < v ∨ v = w by omega) with q | q | q
    · exact absurd a4 (b5 v a1 q)
    · exact absurd b4 (a5 w b1 q)
    · omega
  · exact absurd a4 (b1 v a1 a2 a3)
  · exact absurd b4 (a1 w b1 b2 b3)
  · rw [a2, b2]
theorem ju_bd {x : Int → Int} : ∀ v : Nat, (∀ u : Int, 0 ≤ u → u < v → x u < 4) → 0 ≤ ju x v ∧ ju x v ≤ 4
  | 0, _ => by show (0 : Int) ≤ 0 ∧ (0 : Int) ≤ 4; omega
  | v + 1, h => by
    have ih := ju_bd v (fun u u0 u1 => h u u0 (by omega))
    have := h v (by omega) (by omega)
    show 0 ≤ max (ju x v) (x v + 1) ∧ max (ju x v) (x v + 1) ≤ 4
    omega
theorem L_judge {A : Int → Int → Int} {nv s most : Int} {h0 : am_H} {P : Int → am_H → Prop} (O : OD A) (D : DM A nv h0) (e1 : h0 1 0 = nv) (nv0 : 0 ≤ nv) (nv1 : nv ≤ 10) (s0 : 0 ≤ s) (s1 : s < 4) (z1 : h0 49 s ≤ 20) (H : ∀ h r, (∀ p, p ≠ 36 → h p = h0 p) → jR A nv (h0 49 s) (fun i => h0 50 (20 * s + i)) most r → P r h) : ∀ x7 h, 0 ≤ x7 → x7 ≤ nv → (∀ p, p ≠ 36 → h p = h0 p) → CI A nv h (fun i => h0 50 (20 * s + i)) x7 → (∀ u e, 0 ≤ u → u < nv → 0 ≤ e → e < 4 → 0 ≤ h 36 (4 * u + e) ∧ h 36 (4 * u + e) ≤ 1920) → (∀ u, 0 ≤ u → u < x7 → ¬ jbad (fun i => h0 50 (20 * s + i)) u) → am_x (am_cd 5) 221 (am_qi P) 0 15 [some (.inr (.inr 33)), some (.inr (.inr 47)), some (.inl s), some (.inl most), none, some (.inl (ju (fun i => h0 50 (20 * s + i)) x7.toNat)), some (.inl (js A (fun i => h0 50 (20 * s + i)) x7.toNat)), some (.inl x7), none] [] h := by
  generalize hx : (fun i => h0 50 (20 * s + i)) = x at H
  have xe : ∀ i, h0 50 (20 * s + i) = x i := fun i => by rw [← hx]
  refine upto nv (fun x7 ih h a0 a1 a2 C cb gd => ?_)
  have D' : DM A nv h := ⟨by rw [a2 33 (by decide)]; exact D.1, fun u w u0 u1 w1 => by rw [a2 35 (by decide)]; exact D.2 u w u0 u1 w1⟩
  have jb := js_bd (x := x) O x7.toNat (by omega)
  have ub := ju_bd (x := x) x7.toNat (fun u u0 u1 => by have := gd u u0 (by omega); omega)
  refine g_Dialects_judge_15 ?_
  rw [a2 33 (by decide), a2 49 (by decide), a2 50 (by decide), a2 1 (by decide), D.1, e1, xe]
  have fin : (∀ u, 0 ≤ u → u < nv → u < h0 49 s → ¬ jbad x u) → (h0 49 s = nv → x7 = nv) → ((h0 49 s = nv → ((js A x x7.toNat ≤ most → P (-1) h) ∧ (most < js A x x7.toNat → P 100 h))) ∧ (h0 49 s ≠ nv → P (h0 49 s) h)) := by
    intro k kk
    refine ⟨fun q => ⟨fun y => H h _ a2 (.inr ⟨k, ?_⟩), fun y => H h _ a2 (.inr ⟨k, ?_⟩)⟩, fun q => H h _ a2 (.inr ⟨k, ?_⟩)⟩
    · rw [if_pos q, if_pos (by rw [← kk q]; exact y)]
    · rw [if_pos q, if_neg (by rw [← kk q]; omega)]
    · rw [if_neg q]
  refine ⟨fun hc => ⟨by omega, fin (fun u u0 u1 _ => gd u u0 (by omega)) (fun _ => by omega)⟩, fun hc => ⟨by omega, fun c2 => fin (fun u u0 u1 u2 => gd u u0 (by omega)) (fun q => by omega), fun c2 => ⟨⟨by omega, by omega, by omega⟩, fun c3 => H h _ a2 (.inl ⟨x7, a0, hc, c2, .inl c3, gd, rfl⟩), fun c3 => ⟨fun c4 => H h _ a2 (.inl ⟨x7, a0, hc, c2, .inr (.inl c4), gd, rfl⟩), fun c4 => ⟨fun c5 => ?_, fun c5 => H h _ a2 (.inl ⟨x7, a0, hc, c2, .inr (.inr c5), gd, rfl⟩)⟩⟩⟩⟩⟩
  have ce := C x7 (x x7) (by omega) hc c3 c5
  have sb := Sc_bd (u := x7) (d := x x7) (r := x) O a0
  rw [ce]
  have i := fun h' b2 C' cb' gd' => ih hc h' (by omega) (by omega) b2 C' cb' gd'
  rw [ju_s a0, js_s a0] at i
  have go : ∀ y, pcs A x7 (x x7) x (ju x x7.toNat) = Sc A x7 (x x7) x x7 + y → (y = 0 ∨ y = 5) → am_ok (Sc A x7 (x x7) x x7 + y) ∧ (am_ok (js A x x7.toNat + (Sc A x7 (x x7) x x7 + y)) ∧ (∃ h21, am_cd 5 19 [.inr (.inr 33), .inl x7, .inl (x x7), .inl 1] h none h21 ∧ (am_ok (x x7 + 1) ∧ (am_ok (x7 + 1) ∧ am_x (am_cd 5) 221 (am_qi P) 0 15 [some (.inr (.inr 33)), some (.inr (.inr 47)), some (.inl s), some (.inl most), none, some (.inl (max (ju x x7.toNat) (x x7 + 1))), some (.inl (js A x x7.toNat + (Sc A x7 (x x7) x x7 + y))), some (.inl (x7 + 1)), none] [] h21)))) := by
    intro y ey hy
    rw [ey] at i
    refine ⟨by omega, by omega, am_liftv (Nat.le_of_ble_eq_true rfl) (S_place O D' nv1 a0 (by omega) c3 c5 (.inl rfl) (fun u e u0 u1 e0 e1 => by have := cb u e u0 u1 e0 e1; omega) (fun h1 k1 k2 => ⟨by omega, by omega, i h1 (fun p hp => (k1 p hp).trans (a2 p hp)) ?_ ?_ ?_⟩))⟩
    · intro u e u0 u1 e0 e1
      rw [k2 u e (by omega) u1 e0 e1, C u e (by omega) u1 e0 e1]
      unfold Sc
      rw [su_1 a0]
      by_cases q : e = x x7
      · rw [if_pos ⟨by omega, q⟩, if_pos q.symm]; omega
      · rw [if_neg (fun z => q z.2), if_neg (fun z => q z.symm)]; omega
    · intro u e u0 u1 e0 e1
      rw [k2 u e u0 u1 e0 e1]
      have ab := O x7 u
      by_cases q : x7 < u ∧ e = x x7
      · rw [if_pos q, C u e (by omega) u1 e0 e1]
        have := Sc_bd (u := u) (d := e) (r := x) O a0
        omega
      · rw [if_neg q]; exact cb u e u0 u1 e0 e1
    · intro u u0 u1
      rcases (show u < x7 ∨ u = x7 by omega) with q | q
      · exact gd u u0 q
      · rw [q]; intro z; rcases z with z | z | z <;> omega
  refine ⟨⟨by omega, by omega, by omega⟩, fun c6 => go 0 ?_ (.inl rfl), fun c6 => go 5 ?_ (.inr rfl)⟩
  · unfold pcs; rw [if_neg c6]
  · unfold pcs; rw [if_pos c6]
theorem S_judge {N : Int → Int} {h : am_H} {s most d : Int} {P : Int → am_H → Prop} (L : OL N) (O : OP N) (F : OF N) (C : OA N) (hn : N 0 ≤ 10) (s0 : 0 ≤ s) (s1 : s < 4) (z1 : h 49 s ≤ 20) (LL : LR h N) (R : FR h N) (PP : PR h N) (AA : AR h N) (M : MR h N) (H : ∀ h1 r, (∀ p, p ≠ 15 → p ≠ 16 → p ≠ 23 → p ≠ 33 → p ≠ 34 → p ≠ 35 → p ≠ 36 → h1 p = h p) → MR h1 N → jR (dst N d) (N 0) (h 49 s) (fun i => h 50 (20 * s + i)) most r → P r h1) : ∃ a_ h_, am_cd 6 221 [.inr (.inr 33), .inr (.inr 47), .inl s, .inl most, .inl d] h (some (.inl a_)) h_ ∧ P a_ h_ := by
  have A : OD (dst N d) := fun u v => dst_bd F
  refine e_Dialects_judge (am_liftv (Nat.le_of_ble_eq_true rfl) (S_begin (d := d) L O F C hn LL R PP AA M (fun h1 b1 M1 n1 w0 w1 => ?_)))
  have e49 : h1 49 = h 49 := b1.1 49 (by decide) (by decide) (by decide) (by decide) (by decide) (by decide) (by decide)
  have e50 : h1 50 = h 50 := b1.1 50 (by decide) (by decide) (by decide) (by decide) (by decide) (by decide) (by decide)
  have e1 : h1 1 0 = N 0 := by rw [b1.1 1 (by decide) (by decide) (by decide) (by decide) (by decide) (by decide) (by decide)]; exact LL.1
  refine L_judge A ⟨n1, w1⟩ e1 L.1.1 hn s0 s1 (by rw [e49]; exact z1) (fun h2 r f2 j2 => H h2 r (fun p p1 p2 p3 p4 p5 p6 p7 => (f2 p p7).trans (b1.1 p p1 p2 p3 p4 p5 p6 p7)) (MR_of (f2 15 (by decide)) M1) ?_) 0 h1 (by omega) L.1.1 (fun _ _ => rfl) (fun u e u0 u1 e0 e1 => ?_) (fun u e u0 u1 e0 e1 => ?_) (fun u _ _ => by omega)
  · rw [e49, e50] at j2; exact j2
  · rw [w0 _ (by omega) (by omega)]; exact (su_0 (by omega)).symm
  · rw [w0 _ (by omega) (by omega)]; omega
/-! the reference -/
theorem L_Mproves155 {A : Int → Int → Int} {nv s most x3 v d y : Int} {x : Int → Int} {h : am_H} {P : Int → am_H → Prop} (O : OD A) (hA : ∀ u w, 0 ≤ u → u < nv → 0 ≤ w → w < nv → h 69 (12 * u + w) = A u w) (nv1 : nv ≤ 10) (s0 : 0 ≤ s) (s1 : s < 4) (v0 : 0 ≤ v) (v1 : v < nv) (hx : ∀ i, h 78 (20 * s + i) = x i) (y0 : 0 ≤ y) (y1 : y ≤ 100000) (H : am_x (am_cd 4) 219 (am_qi P) 0 66 [some (.inr (.inr 56)), some (.inl s), some (.inl most), some (.inl x3), some (.inl (y + Sc A v d x v)), some (.inl (v + 1)), none, none] [] h) : ∀ x7, 0 ≤ x7 → x7 ≤ v → am_x (am_cd 4) 219 (am_qi P) 0 155 [some (.inr (.inr 56)), some (.inl s), some (.inl most), some (.inl x3), some (.inl (y + Sc A v d x x7)), some (.inl v), some (.inl d), some (.inl x7)] [] h := by
  refine upto v (fun x7 ih a0 a1 => ?_)
  have b := Sc_bd (u := v) (d := d) (r := x) O a0
  refine g_Mo_proves_155 ⟨fun hc => ⟨by omega, ?_⟩, fun hc => ?_⟩
  · rw [show x7 = v by omega]; exact H
  · rw [hx, hA x7 v a0 (by omega) v0 v1]
    have i := ih hc (by omega) (by omega)
    have e : Sc A v d x (x7 + 1) = Sc A v d x x7 + if x x7 = d then A x7 v else 0 := by unfold Sc; rw [su_1 a0]
    have ab := O x7 v
    rw [e] at i
    refine ⟨⟨by omega, by omega, by omega⟩, fun c => ⟨⟨by omega, by omega⟩, ?_⟩, fun c => ⟨⟨by omega, by omega, by omega, by omega, by omega⟩, ?_⟩⟩
    · rw [if_neg c] at i
      rw [show y + Sc A v d x x7 + 0 = y + (Sc A v d x x7 + 0) by omega]; exact i
    · rw [if_pos c] at i
      rw [show y + Sc A v d x x7 + A x7 v = y + (Sc A v d x x7 + A x7 v) by omega]; exact i
theorem L_Mproves66 {A : Int → Int → Int} {nv s most : Int} {x : Int → Int} {h : am_H} {P : Int → am_H → Prop} (O : OD A) (e0 : h 57 0 = nv) (hA : ∀ u w, 0 ≤ u → u < nv → 0 ≤ w → w < nv → h 69 (12 * u + w) = A u w) (nv0 : 0 ≤ nv) (nv1 : nv ≤ 10) (s0 : 0 ≤ s) (s1 : s < 4) (z1 : h 77 s ≤ 20) (hx : ∀ i, h 78 (20 * s + i) = x i) (H : ∀ r, jR A nv (h 77 s) x most r → P r h) : ∀ x5, 0 ≤ x5 → x5 ≤ nv → (∀ u, 0 ≤ u → u < x5 → ¬ jbad x u) → am_x (am_cd 4) 219 (am_qi P) 0 66 [some (.inr (.inr 56)), some (.inl s), some (.inl most), some (.inl (ju x x5.toNat)), some (.inl (js A x x5.toNat)), some (.inl x5), none, none] [] h := by
  refine upto nv (fun x5 ih a0 a1 gd => ?_)
  have jb := js_bd (x := x) O x5.toNat (by omega)
  have ub := ju_bd (x := x) x5.toNat (fun u u0 u1 => by have := gd u u0 (by omega); omega)
  refine g_Mo_proves_66 ?_
  rw [e0, hx]
  have fin : (∀ u, 0 ≤ u → u < nv → u < h 77 s → ¬ jbad x u) → (h 77 s = nv → x5 = nv) → ((h 77 s = nv → ((js A x x5.toNat ≤ most → P (-1) h) ∧ (most < js A x x5.toNat → P 100 h))) ∧ (h 77 s ≠ nv → P (h 77 s) h)) := by
    intro k kk
    refine ⟨fun q => ⟨fun y => H _ (.inr ⟨k, ?_⟩), fun y => H _ (.inr ⟨k, ?_⟩)⟩, fun q => H _ (.inr ⟨k, ?_⟩)⟩
    · rw [if_pos q, if_pos (by rw [← kk q]; exact y)]
    · rw [if_pos q, if_neg (by rw [← kk q]; omega)]
    · rw [if_neg q]
  refine ⟨fun hc => ⟨by omega, fin (fun u u0 u1 _ => gd u u0 (by omega)) (fun _ => by omega)⟩, fun hc => ⟨by omega, fun c2 => fin (fun u u0 u1 u2 => gd u u0 (by omega)) (fun q => by omega), fun c2 => ⟨⟨by omega, by omega, by omega⟩, fun c3 => H _ (.inl ⟨x5, a0, hc, c2, .inl c3, gd, rfl⟩), fun c3 => ⟨fun c4 => H _ (.inl ⟨x5, a0, hc, c2, .inr (.inl c4), gd, rfl⟩), fun c4 => ⟨fun c5 => ?_, fun c5 => H _ (.inl ⟨x5, a0, hc, c2, .inr (.inr (by omega)), gd, rfl⟩)⟩⟩⟩⟩⟩
  have i := ih hc (by omega) (by omega) (fun u u0 u1 => by
    rcases (show u < x5 ∨ u = x5 by omega) with q | q
    · exact gd u u0 q
    · rw [q]; intro z; rcases z with z | z | z <;> omega)
  rw [ju_s a0, js_s a0] at i
  have z0 : Sc A x5 (x x5) x 0 = 0 := su_0 (by omega)
  refine ⟨fun c6 => ⟨⟨by omega, by omega⟩, ?_⟩, fun c6 => ⟨⟨by omega, by omega⟩, ?_⟩⟩
  · unfold pcs at i
    rw [if_neg c6, show max (ju x x5.toNat) (x x5 + 1) = ju x x5.toNat + 0 by omega, show js A x x5.toNat + (Sc A x5 (x x5) x x5 + 0) = js A x x5.toNat + 0 + Sc A x5 (x x5) x x5 by omega] at i
    have := L_Mproves155 O hA nv1 s0 s1 a0 hc hx (y := js A x x5.toNat + 0) (d := x x5) (by omega) (by omega) i 0 (by omega) a0
    rw [z0, show js A x x5.toNat + 0 + 0 = js A x x5.toNat + 0 by omega] at this
    exact this
  · unfold pcs at i
    rw [if_pos c6, show max (ju x x5.toNat) (x x5 + 1) = ju x x5.toNat + 1 by omega, show js A x x5.toNat + (Sc A x5 (x x5) x x5 + 5) = js A x x5.toNat + 5 + Sc A x5 (x x5) x x5 by omega] at i
    have := L_Mproves155 O hA nv1 s0 s1 a0 hc hx (y := js A x x5.toNat + 5) (d := x x5) (by omega) (by omega) i 0 (by omega) a0
    rw [z0, show js A x x5.toNat + 5 + 0 = js A x x5.toNat + 5 by omega] at this
    exact this
/-- the reference's best so far -/
def mBR (h : am_H) (nv B : Int) (R : Int → Int) : Prop := ((h 56 21 = -1 ∧ B = 1000000) ∨ (h 56 21 = B ∧ 0 ≤ B ∧ B < 1000000)) ∧ ∀ u, 0 ≤ u → u < nv → h 72 u = R u
def mpF (v : Int) (h0 h : am_H) : Prop := (∀ p, p ≠ 56 → p ≠ 71 → p ≠ 72 → h p = h0 p) ∧ (∀ j, j ≠ 21 → h 56 j = h0 56 j) ∧ (∀ u, u < v → h 71 u = h0 71 u)
theorem L_Mpart36 {n : Nat} {nv : Int} {h0 : am_H} {P : am_H → Prop} (nv1 : nv ≤ 10) (H : ∀ h, (∀ p, p ≠ 72 → h p = h0 p) → (∀ u, 0 ≤ u → u < nv → h 72 u = h0 71 u) → P h) : ∀ x5 h, 0 ≤ x5 → x5 ≤ nv → (∀ p, p ≠ 72 → h p = h0 p) → (∀ u, 0 ≤ u → u < x5 → h 72 u = h0 71 u) → am_x (am_cd (n + 0)) 83 (am_qv P) 0 36 [some (.inr (.inr 56)), some (.inl nv), none, none, none, some (.inl x5), none, none] [] h := by
  refine upto nv (fun x5 ih h a0 a1 a2 a3 => ?_)
  refine g_Mo_part_36 ⟨fun hc => H h a2 (fun u u0 u1 => a3 u u0 (by omega)), fun hc => ⟨⟨by omega, by omega⟩, ih hc _ (by omega) (by omega) (fun p hp => (up_ne hp).trans (a2 p hp)) (fun u u0 u1 => ?_)⟩⟩
  rw [up_same]
  by_cases q : u = x5
  · rw [if_pos q, a2 71 (by decide), q]
  · rw [if_neg q]; exact a3 u u0 (by omega)
theorem L_Mpart94 {n : Nat} {A : Int → Int → Int} {nv v used k sum d y : Int} {r : Int → Int} {h : am_H} {P : am_H → Prop} (O : OD A) (nv1 : nv ≤ 10) (v0 : 0 ≤ v) (v1 : v < nv) (hA : ∀ u w, 0 ≤ u → u < nv → 0 ≤ w → w < nv → h 69 (12 * u + w) = A u w) (hr : ∀ u, 0 ≤ u → u < v → h 71 u = r u) (y0 : 0 ≤ y) (y1 : y ≤ 5) (H : am_x (am_cd (n + 0)) 83 (am_qv P) 0 94 [some (.inr (.inr 56)), some (.inl v), some (.inl used), some (.inl k), some (.inl sum), some (.inl d), some (.inl (y + Sc A v d r v)), some (.inl v)] [] h) : ∀ x7, 0 ≤ x7 → x7 ≤ v → am_x (am_cd (n + 0)) 83 (am_qv P) 0 94 [some (.inr (.inr 56)), some (.inl v), some (.inl used), some (.inl k), some (.inl sum), some (.inl d), some (.inl (y + Sc A v d r x7)), some (.inl x7)] [] h := by
  refine upto v (fun x7 ih a0 a1 => ?_)
  by_cases hc : x7 < v
  · have b := Sc_bd (u := v) (d := d) (r := r) O a0
    refine g_Mo_part_94 ⟨fun c => by omega, fun _ => ?_⟩
    rw [hr x7 a0 hc, hA x7 v a0 (by omega) v0 v1]
    have i := ih hc (by omega) (by omega)
    have e : Sc A v d r (x7 + 1) = Sc A v d r x7 + if r x7 = d then A x7 v else 0 := by unfold Sc; rw [su_1 a0]
    have ab := O x7 v
    rw [e] at i
    refine ⟨by omega, fun c => ⟨⟨by omega, by omega⟩, ?_⟩, fun c => ⟨⟨by omega, by omega, by omega, by omega, by omega⟩, ?_⟩⟩
    · rw [if_neg c] at i
      rw [show y + Sc A v d r x7 + 0 = y + (Sc A v d r x7 + 0) by omega]; exact i
    · rw [if_pos c] at i
      rw [show y + Sc A v d r x7 + A x7 v = y + (Sc A v d r x7 + A x7 v) by omega]; exact i
  · rw [show x7 = v by omega]; exact H
theorem S_Mpart {A : Int → Int → Int} {nv k : Int} (O : OD A) (nv1 : nv ≤ 10) (k0 : 0 < k) (k1 : k ≤ 4) : ∀ (m n : Nat) (v used sum B : Int) (r R : Int → Int) (h : am_H) (P : am_H → Prop), m ≤ n → v + m = nv → 0 ≤ v → 0 ≤ used → used ≤ k → 0 ≤ sum → sum ≤ 2000 * v → h 57 0 = nv → (∀ u w, 0 ≤ u → u < nv → 0 ≤ w → w < nv → h 69 (12 * u + w) = A u w) → (∀ u, 0 ≤ u → u < v → h 71 u = r u) → mBR h nv B R → (∀ h1, mpF v h h1 → mBR h1 nv (up0 B R sum (opt A k m v used r)).1 (up0 B R sum (opt A k m v used r)).2 → P h1) → ∃ h_, am_cd (n + 1) 83 [.inr (.inr 56), .inl v, .inl used, .inl k, .inl sum] h none h_ ∧ P h_
  | 0, n, v, used, sum, B, r, R, h, P, hn, hm, v0, us0, us1, s0, s1, e0, hA, hr, hB, H => by
    have o : opt A k 0 v used r = (0, r) := rfl
    have vn : v = nv := by omega
    have leaf : sum < B → am_x (am_cd (n + 0)) 83 (am_qv P) 0 36 [some (.inr (.inr 56)), some (.inl v), none, none, none, some (.inl 0), none, none] [] (am_up h 56 21 sum) := by
      intro c
      have u0 : up0 B R sum (opt A k 0 v used r) = (sum, r) := by rw [o]; unfold up0; rw [if_pos (show sum + 0 < B by omega), show sum + 0 = sum by omega]
      rw [u0] at H
      rw [vn]
      have sb : sum < 1000000 := by rcases hB.1 with q | q <;> omega
      refine L_Mpart36 (h0 := am_up h 56 21 sum) nv1 (fun h1 f1 w1 => H h1 ⟨fun p p1 p2 p3 => (f1 p p3).trans (up_ne p1), fun j hj => by rw [f1 56 (by decide), up_same, if_neg hj], fun u u1 => by rw [f1 71 (by decide), up_ne (by decide)]⟩ ⟨.inr ⟨?_, s0, sb⟩, fun u u0 u1 => ?_⟩) 0 _ (by omega) (by omega) (fun _ _ => rfl) (fun u _ _ => by omega)
      · rw [f1 56 (by decide), up_same, if_pos rfl]
      · rw [w1 u u0 u1, up_ne (by decide)]; exact hr u u0 (by omega)
    refine e_Mo_part ⟨fun c => ⟨fun c2 => by omega, fun _ => leaf ?_⟩, fun c => ⟨fun c2 => ⟨fun c3 => by omega, fun _ => leaf ?_⟩, fun c2 => ?_⟩⟩
    · rcases hB.1 with q | q <;> omega
    · rcases hB.1 with q | q <;> omega
    · have u0 : up0 B R sum (opt A k 0 v used r) = (B, R) := by rw [o]; exact up0_no (show B ≤ sum + 0 by rcases hB.1 with q | q <;> omega)
      rw [u0] at H
      exact H h ⟨fun _ _ _ _ => rfl, fun _ _ => rfl, fun _ _ => rfl⟩ hB
  | m + 1, n, v, used, sum, B, r, R, h, P, hn, hm, v0, us0, us1, s0, s1, e0, hA, hr, hB, H => by
    obtain ⟨n', rfl⟩ : ∃ n', n = n' + 1 := ⟨n - 1, by omega⟩
    have o0 := opt_0 (k := k) O (m + 1) v used r v0
    have main : sum < B → am_x (am_cd (n' + 1 + 0)) 83 (am_qv P) 0 66 [some (.inr (.inr 56)), some (.inl v), some (.inl used), some (.inl k), some (.inl sum), some (.inl 0), none, none] [] h := by
      intro cB
      have oe : opt A k (m + 1) v used r = odf (fun d => opt A k m (v + 1) (max used (d + 1)) (updr r v d)) (fun d => pcs A v d r used) used k r 4 := rfl
      rw [oe] at H
      generalize hf : (fun d => opt A k m (v + 1) (max used (d + 1)) (updr r v d)) = f at H
      generalize hc : (fun d => pcs A v d r used) = cc at H
      have key : ∀ x5 h', 0 ≤ x5 → x5 ≤ 4 → mpF v h h' → mBR h' nv (up0 B R sum (odf f cc used k r x5.toNat)).1 (up0 B R sum (odf f cc used k r x5.toNat)).2 → am_x (am_cd (n' + 1 + 0)) 83 (am_qv P) 0 66 [some (.inr (.inr 56)), some (.inl v), some (.inl used), some (.inl k), some (.inl sum), some (.inl x5), none, none] [] h' := by
        refine upto 4 (fun x5 ih h' a0 a1 p b => ?_)
        have e0' : h' 57 0 = nv := by rw [p.1 57 (by decide) (by decide) (by decide)]; exact e0
        have hA' : ∀ u w, 0 ≤ u → u < nv → 0 ≤ w → w < nv → h' 69 (12 * u + w) = A u w := fun u w u0 u1 w0 w1 => by rw [p.1 69 (by decide) (by decide) (by decide)]; exact hA u w u0 u1 w0 w1
        have r' : ∀ u, 0 ≤ u → u < v → h' 71 u = r u := fun u u0 u1 => by rw [p.2.2 u u1]; exact hr u u0 u1
        refine g_Mo_part_66 ⟨fun c1 => H h' p ?_, fun c1 => ⟨fun c2 => H h' p ?_, fun c2 => ?_⟩⟩
        · rw [odf_end a0 a1 (.inl c1)] at b; exact b
        · rw [odf_end a0 a1 (.inr c2)] at b; exact b
        · have us := up0_s (f := f) (c := cc) (r := r) (B := B) (R := R) (s := sum) a0 c1 c2
          have i := fun h'' p' w => ih (by omega) h'' (by omega) (by omega) p' w
          rw [us] at i
          generalize up0 B R sum (odf f cc used k r x5.toNat) = BR at i b
          have sb := Sc_bd (u := v) (d := x5) (r := r) O v0
          have z0 : Sc A v x5 r 0 = 0 := su_0 (by omega)
          have go : ∀ y, cc x5 = Sc A v x5 r v + y → (y = 0 ∨ y = 5) → (used' : Int) → used' = max used (x5 + 1) → ∃ h6, am_cd (n' + 1 + 0) 83 [.inr (.inr 56), .inl (v + 1), .inl used', .inl k, .inl (sum + (y + Sc A v x5 r v))] (am_up h' 71 v x5) none h6 ∧ (am_ok (x5 + 1) ∧ am_x (am_cd (n' + 1 + 0)) 83 (am_qv P) 0 66 [some (.inr (.inr 56)), some (.inl v), some (.inl used), some (.inl k), some (.inl sum), some (.inl (x5 + 1)), none, none] [] h6) := by
            intro y ey hy used' eu
            subst eu
            have g1 : ∀ q, q ≠ 71 → am_up h' 71 v x5 q = h' q := fun q hq => up_ne hq
            refine S_Mpart O nv1 k0 k1 m n' (v + 1) (max used (x5 + 1)) (sum + (y + Sc A v x5 r v)) BR.1 (updr r v x5) BR.2 (am_up h' 71 v x5) _ (by omega) (by omega) (by omega) (by omega) (by omega) (by omega) (by omega) (by rw [g1 57 (by decide)]; exact e0') (fun u w u0 u1 w0 w1 => by rw [g1 69 (by decide)]; exact hA' u w u0 u1 w0 w1) (fun u u0 u1 => ?_) ⟨by rw [g1 56 (by decide)]; exact b.1, fun u u0 u1 => by rw [g1 72 (by decide)]; exact b.2 u u0 u1⟩ (fun h3 p3 w3 => ⟨by omega, i h3 ⟨fun q q1 q2 q3 => ?_, fun j hj => ?_, fun u u1 => ?_⟩ ?_⟩)
            · rw [up_same]
              unfold updr
              by_cases q : u = v
              · rw [if_pos q, if_pos q]
              · rw [if_neg q, if_neg q]; exact r' u u0 (by omega)
            · rw [p3.1 q q1 q2 q3, g1 q q2]; exact p.1 q q1 q2 q3
            · rw [p3.2.1 j hj, g1 56 (by decide)]; exact p.2.1 j hj
            · rw [p3.2.2 u (by omega), up_same, if_neg (by omega)]; exact p.2.2 u u1
            · rw [ey, ← hf, show sum + (Sc A v x5 r v + y) = sum + (y + Sc A v x5 r v) by omega]; exact w3
          have fin : ∀ y, cc x5 = Sc A v x5 r v + y → ((y = 0 ∧ x5 ≠ used) ∨ (y = 5 ∧ x5 = used)) → am_x (am_cd (n' + 1 + 0)) 83 (am_qv P) 0 94 [some (.inr (.inr 56)), some (.inl v), some (.inl used), some (.inl k), some (.inl sum), some (.inl x5), some (.inl (y + Sc A v x5 r v)), some (.inl v)] [] h' := by
            intro y ey hy
            refine g_Mo_part_94 ⟨fun _ => ⟨⟨by omega, by omega⟩, fun c3 => ⟨by omega, go y ey (by omega) _ (by omega)⟩, fun c3 => ⟨⟨by omega, by omega⟩, go y ey (by omega) _ (by omega)⟩⟩, fun c => by omega⟩
          refine ⟨fun c3 => ?_, fun c3 => ?_⟩
          · have := L_Mpart94 (n := n' + 1) (k := k) (used := used) (sum := sum) (d := x5) (y := 0) O nv1 v0 (by omega) hA' r' (by omega) (by omega) (fin 0 (by rw [← hc]; show pcs A v x5 r used = _; unfold pcs; rw [if_neg c3]) (.inl ⟨rfl, c3⟩)) 0 (by omega) v0
            rw [z0] at this
            exact this
          · have := L_Mpart94 (n := n' + 1) (k := k) (used := used) (sum := sum) (d := x5) (y := 5) O nv1 v0 (by omega) hA' r' (by omega) (by omega) (fin 5 (by rw [← hc]; show pcs A v x5 r used = _; unfold pcs; rw [if_pos c3]) (.inr ⟨rfl, c3⟩)) 0 (by omega) v0
            rw [z0] at this
            exact this
      refine key 0 h (by omega) (by omega) ⟨fun _ _ _ _ => rfl, fun _ _ => rfl, fun _ _ => rfl⟩ ?_
      have : up0 B R sum (odf f cc used k r (0 : Int).toNat) = (B, R) := up0_no (show B ≤ sum + 1000000 by rcases hB.1 with q | q <;> omega)
      rw [this]; exact hB
    refine e_Mo_part ⟨fun c => ⟨fun _ => main ?_, fun c2 => by omega⟩, fun c => ⟨fun c2 => ⟨fun _ => main ?_, fun c3 => by omega⟩, fun c2 => ?_⟩⟩
    · rcases hB.1 with q | q <;> omega
    · rcases hB.1 with q | q <;> omega
    · rw [up0_no (show B ≤ sum + (opt A k (m + 1) v used r).1 by rcases hB.1 with q | q <;> omega)] at H
      exact H h ⟨fun _ _ _ _ => rfl, fun _ _ => rfl, fun _ _ => rfl⟩ hB
