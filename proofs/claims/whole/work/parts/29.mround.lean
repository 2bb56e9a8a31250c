/-! the reference's rounds -/
def qs (left nv : Int) : Int → Prop := fun u => 0 ≤ u ∧ u < nv ∧ tb left u
theorem qs_del {left nv v : Int} (nv1 : nv ≤ 12) (v0 : 0 ≤ v) (v1 : v < nv) : qs (am_and left (am_xor (am_shl 1 v) (-1))) nv = fun u => qs left nv u ∧ u ≠ v := by
  funext u
  apply propext
  unfold qs
  constructor
  · rintro ⟨u0, u1, u2⟩
    rw [tb_and u0 (by omega), tb_not u0 (by omega), tb_shl u0 (by omega) v0 (by omega)] at u2
    exact ⟨⟨u0, u1, u2.1⟩, fun e => u2.2 e.symm⟩
  · rintro ⟨⟨u0, u1, u2⟩, u3⟩
    refine ⟨u0, u1, ?_⟩
    rw [tb_and u0 (by omega), tb_not u0 (by omega), tb_shl u0 (by omega) v0 (by omega)]
    exact ⟨u2, fun e => u3 e.symm⟩
def mBO (h : am_H) (t B : Int) (R : Int → Int) : Prop := ((h 56 25 = -1 ∧ B = 100000000) ∨ (h 56 25 = B ∧ 0 ≤ B ∧ B < 100000000)) ∧ ∀ i, 0 ≤ i → i < t → h 75 i = R i
def mgF (met : Int) (h0 h : am_H) : Prop := (∀ p, p ≠ 56 → p ≠ 74 → p ≠ 75 → h p = h0 p) ∧ (∀ j, j ≠ 25 → h 56 j = h0 56 j) ∧ (∀ i, i < met → h 74 i = h0 74 i)
theorem L_Mgoes49 {n : Nat} {t : Int} {h0 : am_H} {P : am_H → Prop} (t1 : t ≤ 7) (H : ∀ h, (∀ p, p ≠ 75 → h p = h0 p) → (∀ i, 0 ≤ i → i < t → h 75 i = h0 74 i) → P h) : ∀ x6 h, 0 ≤ x6 → x6 ≤ t → (∀ p, p ≠ 75 → h p = h0 p) → (∀ i, 0 ≤ i → i < x6 → h 75 i = h0 74 i) → am_x (am_cd (n + 0)) 84 (am_qv P) 0 49 [some (.inr (.inr 56)), none, none, some (.inl t), none, none, some (.inl x6)] [] h := by
  refine upto t (fun x6 ih h a0 a1 a2 a3 => ?_)
  refine g_Mo_goes_49 ⟨fun hc => H h a2 (fun i i0 i1 => a3 i i0 (by omega)), fun hc => ⟨⟨by omega, by omega⟩, ih hc _ (by omega) (by omega) (fun p hp => (up_ne hp).trans (a2 p hp)) (fun i i0 i1 => ?_)⟩⟩
  rw [up_same]
  by_cases q : i = x6
  · rw [if_pos q, a2 74 (by decide), q]
  · rw [if_neg q]; exact a3 i i0 (by omega)
theorem S_Mgoes {D : Int → Int → Int} {home nv t : Int} {g : Int → Prop} (nv1 : nv ≤ 12) (hg : ∀ u, g u → 0 ≤ u ∧ u < nv) (gh : g home) (gD : ∀ u v, g u → g v → 0 ≤ D u v ∧ D u v ≤ 1188) (hD : ∀ u v, 0 ≤ u → u < nv → 0 ≤ v → v < nv → 0 ≤ D u v ∧ D u v ≤ 1000000) (t1 : t ≤ 7) : ∀ (m n : Nat) (x left met sum B : Int) (r R : Int → Int) (h : am_H) (P : am_H → Prop), m ≤ n → met + m = t → 0 ≤ met → g x → am_ok left → inn left nv → (∀ u, qs left nv u → g u) → cq (qs left nv) nv = m → 0 ≤ sum → sum ≤ 1188 * met → h 57 0 = nv → h 56 26 = home → (∀ u v, g u → g v → h 73 (12 * u + v) = D u v) → (∀ i, 0 ≤ i → i < met → h 74 i = r i) → mBO h t B R → (∀ h1, mgF met h h1 → mBO h1 t (up0 B R sum (opr D home nv m x (qs left nv) met r)).1 (up0 B R sum (opr D home nv m x (qs left nv) met r)).2 → P h1) → ∃ h_, am_cd (n + 1) 84 [.inr (.inr 56), .inl x, .inl left, .inl met, .inl sum] h none h_ ∧ P h_
  | 0, n, x, left, met, sum, B, r, R, h, P, hn, hm, m0, gx, ok, il, ql, cc, s0, s1, e0, eh, h73, hr, hB, H => by
    have l0 : left = 0 := tb_ext ok (by decide) (fun v v0 v1 => ⟨fun y => absurd cc (by have := cq_n0 v0 (il v v0 v1 y) (show qs left nv v from ⟨v0, il v v0 v1 y, y⟩); omega), fun y => absurd y tb_zero⟩)
    have o : opr D home nv 0 x (qs left nv) met r = (D x home, r) := rfl
    have xb := hg x gx
    have hb := hg home gh
    have db := gD x home gx gh
    have leaf : sum + D x home < B → am_x (am_cd (n + 0)) 84 (am_qv P) 0 49 [some (.inr (.inr 56)), none, none, some (.inl met), none, none, some (.inl 0)] [] (am_up h 56 25 (sum + D x home)) := by
      intro c
      have u0 : up0 B R sum (opr D home nv 0 x (qs left nv) met r) = (sum + D x home, r) := by rw [o]; unfold up0; rw [if_pos c]
      rw [u0] at H
      have mt : met = t := by omega
      subst mt
      refine L_Mgoes49 (h0 := am_up h 56 25 (sum + D x home)) t1 (fun h1 f1 w1 => H h1 ⟨fun p p1 p2 p3 => (f1 p p3).trans (up_ne p1), fun j hj => by rw [f1 56 (by decide), up_same, if_neg hj], fun i _ => by rw [f1 74 (by decide), up_ne (by decide)]⟩ ⟨.inr ⟨?_, by omega, by omega⟩, fun i i0 i1 => ?_⟩) 0 _ (by omega) m0 (fun _ _ => rfl) (fun i _ _ => by omega)
      · rw [f1 56 (by decide), up_same, if_pos rfl]
      · rw [w1 i i0 i1, up_ne (by decide)]; exact hr i i0 i1
    refine e_Mo_goes ⟨fun c => absurd l0 c, fun _ => ?_⟩
    rw [eh, h73 x home gx gh]
    refine ⟨⟨by omega, by omega, by omega, by omega⟩, fun c => leaf ?_, fun c => ⟨fun c2 => leaf ?_, fun c2 => ?_⟩⟩
    · rcases hB.1 with q | q <;> omega
    · rcases hB.1 with q | q <;> omega
    · have u0 : up0 B R sum (opr D home nv 0 x (qs left nv) met r) = (B, R) := by rw [o]; exact up0_no (show B ≤ sum + D x home by rcases hB.1 with q | q <;> omega)
      rw [u0] at H
      exact H h ⟨fun _ _ _ _ => rfl, fun _ _ => rfl, fun _ _ => rfl⟩ hB
  | m + 1, n, x, left, met, sum, B, r, R, h, P, hn, hm, m0, gx, ok, il, ql, cc, s0, s1, e0, eh, h73, hr, hB, H => by
    obtain ⟨n', rfl⟩ : ∃ n', n = n' + 1 := ⟨n - 1, by omega⟩
    have hb := hg home gh
    have xb := hg x gx
    have oe : opr D home nv (m + 1) x (qs left nv) met r = rdf (fun v => opr D home nv m v (fun u => qs left nv u ∧ u ≠ v) (met + 1) (updr r met v)) (fun v => D x v) (qs left nv) r nv.toNat := rfl
    rw [oe] at H
    generalize hf : (fun v => opr D home nv m v (fun u => qs left nv u ∧ u ≠ v) (met + 1) (updr r met v)) = f at H
    have key : ∀ x5 h', 0 ≤ x5 → x5 ≤ nv → mgF met h h' → mBO h' t (up0 B R sum (rdf f (fun v => D x v) (qs left nv) r x5.toNat)).1 (up0 B R sum (rdf f (fun v => D x v) (qs left nv) r x5.toNat)).2 → am_x (am_cd (n' + 1 + 0)) 84 (am_qv P) 0 79 [some (.inr (.inr 56)), some (.inl x), some (.inl left), some (.inl met), some (.inl sum), some (.inl x5), none] [] h' := by
      refine upto nv (fun x5 ih h' a0 a1 p b => ?_)
      have e0' : h' 57 0 = nv := by rw [p.1 57 (by decide) (by decide) (by decide)]; exact e0
      have eh' : h' 56 26 = home := by rw [p.2.1 26 (by decide)]; exact eh
      have h73' : ∀ u v, g u → g v → h' 73 (12 * u + v) = D u v := fun u v gu gv => by rw [p.1 73 (by decide) (by decide) (by decide)]; exact h73 u v gu gv
      have r' : ∀ i, 0 ≤ i → i < met → h' 74 i = r i := fun i i0 i1 => by rw [p.2.2 i i1]; exact hr i i0 i1
      have i := fun h'' p' w => ih h'' p' w
      refine g_Mo_goes_79 ?_
      rw [e0']
      refine ⟨fun hc => H h' p ?_, fun hc => ⟨fun c => ?_, fun c => ⟨by omega, ?_⟩⟩⟩
      · rw [show x5 = nv by omega] at b; exact b
      · have tbv : tb left x5 := Classical.byContradiction (fun y => c ((shr1 a0 (by omega)).2.mpr y))
        have qv : qs left nv x5 := ⟨a0, hc, tbv⟩
        have gv := ql x5 qv
        have db := gD x x5 gx gv
        have us := up0_r (f := f) (c := fun v => D x v) (q := qs left nv) (r := r) (B := B) (R := R) (s := sum) a0 qv
        have i := fun h'' p' w => ih hc h'' (by omega) (by omega) p' w
        rw [us] at i
        generalize up0 B R sum (rdf f (fun v => D x v) (qs left nv) r x5.toNat) = BR at i b
        rw [h73' x x5 gx gv]
        have g1 : ∀ q, q ≠ 74 → am_up h' 74 met x5 q = h' q := fun q hq => up_ne hq
        have qd := qs_del (left := left) nv1 a0 hc
        refine ⟨⟨by omega, by omega, by omega, by omega, by omega, by omega⟩, S_Mgoes nv1 hg gh gD hD t1 m n' x5 (am_and left (am_xor (am_shl 1 x5) (-1))) (met + 1) (sum + D x x5) BR.1 (updr r met x5) BR.2 (am_up h' 74 met x5) _ (by omega) (by omega) (by omega) gv (ok_and _ _) (inn_and il) (fun u hu => ?_) (by rw [qd, cq_del a0 hc qv]; omega) (by omega) (by omega) (by rw [g1 57 (by decide)]; exact e0') (by rw [g1 56 (by decide)]; exact eh') (fun u v gu gv => by rw [g1 73 (by decide)]; exact h73' u v gu gv) (fun j j0 j1 => ?_) ⟨by rw [g1 56 (by decide)]; exact b.1, fun j j0 j1 => by rw [g1 75 (by decide)]; exact b.2 j j0 j1⟩ (fun h3 p3 w3 => ⟨by omega, i h3 ⟨fun q q1 q2 q3 => ?_, fun j hj => ?_, fun j j1 => ?_⟩ ?_⟩)⟩
        · rw [qd] at hu; exact ql u hu.1
        · rw [up_same]
          unfold updr
          by_cases q : j = met
          · rw [if_pos q, if_pos q]
          · rw [if_neg q, if_neg q]; exact r' j j0 (by omega)
        · rw [p3.1 q q1 q2 q3, g1 q q2]; exact p.1 q q1 q2 q3
        · rw [p3.2.1 j hj, g1 56 (by decide)]; exact p.2.1 j hj
        · rw [p3.2.2 j (by omega), up_same, if_neg (by omega)]; exact p.2.2 j j1
        · rw [qd] at w3; rw [← hf]; exact w3
      · have nt : ¬ tb left x5 := (shr1 a0 (by omega)).2.mp c
        have i := ih hc h' (by omega) (by omega) p
        rw [rdf_n a0 (fun y => nt y.2.2)] at i
        exact i b
    refine e_Mo_goes ⟨fun _ => key 0 h (by omega) (by omega) ⟨fun _ _ _ _ => rfl, fun _ _ => rfl, fun _ _ => rfl⟩ ?_, fun c => ?_⟩
    · have : up0 B R sum (rdf f (fun v => D x v) (qs left nv) r (0 : Int).toNat) = (B, R) := up0_no (show B ≤ sum + 100000000 by rcases hB.1 with q | q <;> omega)
      rw [this]; exact hB
    · exfalso
      subst c
      obtain ⟨u, u0, u1, u2⟩ := cq_pos (q := qs 0 nv) (n := nv) (by omega) (by omega)
      exact tb_zero u2.2.2
theorem rdf_2 {f : Int → Int × (Int → Int)} {c : Int → Int} {q : Int → Prop} {r : Int → Int} : ∀ j : Nat, rdf f c q r j = (100000000, r) ∨ ∃ v : Int, 0 ≤ v ∧ v < j ∧ q v ∧ rdf f c q r j = (c v + (f v).1, (f v).2)
  | 0 => .inl rfl
  | j + 1 => by
    have e : rdf f c q r (j + 1) = @ite _ (q j ∧ c j + (f j).1 < (rdf f c q r j).1) (Classical.propDecidable _) (c j + (f j).1, (f j).2) (rdf f c q r j) := rfl
    by_cases k : q j ∧ c j + (f j).1 < (rdf f c q r j).1
    · rw [if_pos k] at e; exact .inr ⟨j, by omega, by omega, k.1, e⟩
    · rw [if_neg k] at e
      rw [e]
      rcases rdf_2 (f := f) (c := c) (q := q) (r := r) j with y | ⟨v, v0, v1, v2, v3⟩
      · exact .inl y
      · exact .inr ⟨v, v0, by omega, v2, v3⟩
theorem opr_rg {D : Int → Int → Int} {home nv : Int} (hD : ∀ u v, 0 ≤ u → u < nv → 0 ≤ v → v < nv → D u v ≤ 1000000) (h0 : 0 ≤ home) (h1 : home < nv) : ∀ (m : Nat) (x : Int) (q : Int → Prop) (met : Int) (r : Int → Int), 0 ≤ x → x < nv → (∀ u, q u → 0 ≤ u ∧ u < nv) → cq q nv = m → m ≤ 12 → (∀ i, 0 ≤ i → i < met → 0 ≤ r i) → 0 ≤ met → ∀ i, 0 ≤ i → i < met + m → 0 ≤ (opr D home nv m x q met r).2 i
  | 0, x, q, met, r, x0, x1, hq, hm, m1, hr, _, i, i0, i1 => hr i i0 (by omega)
  | m + 1, x, q, met, r, x0, x1, hq, hm, m1, hr, mt, i, i0, i1 => by
    have ub := opr_ub hD h0 h1 (m + 1) x q met r x0 x1 hq hm
    have e : opr D home nv (m + 1) x q met r = rdf (fun v => opr D home nv m v (fun u => q u ∧ u ≠ v) (met + 1) (updr r met v)) (fun v => D x v) q r nv.toNat := rfl
    rcases rdf_2 (f := fun v => opr D home nv m v (fun u => q u ∧ u ≠ v) (met + 1) (updr r met v)) (c := fun v => D x v) (q := q) (r := r) nv.toNat with y | ⟨v, v0, v1, v2, v3⟩
    · rw [e, y] at ub
      have : (100000000 : Int) ≤ 1000000 * ((m + 1 : Nat) + 1) := ub
      omega
    · rw [e, v3]
      have b := hq v v2
      refine opr_rg hD h0 h1 m v (fun u => q u ∧ u ≠ v) (met + 1) (updr r met v) b.1 b.2 (fun u y => hq u y.1) (by rw [cq_del b.1 b.2 v2]; omega) (by omega) (fun j j0 j1 => ?_) (by omega) i i0 (by omega)
      unfold updr
      by_cases k : j = met
      · rw [if_pos k]; exact v0
      · rw [if_neg k]; exact hr j j0 (by omega)
/-- the answer of round -/
noncomputable def rnd (N : Int → Int) (D : Int → Int → Int) (home set what : Int) : Int :=
  @ite _ (¬ (0 ≤ home ∧ home < N 0 ∧ inn set (N 0) ∧ ¬ tb set home ∧ -1 ≤ what)) (Classical.propDecidable _) (-100001) (if 7 < cn set 12 then -100003 else @ite _ (∃ v, 0 ≤ v ∧ v < N 0 ∧ tb set v ∧ 1000000 ≤ D home v) (Classical.propDecidable _) (-100008) (if cn set 12 ≤ what then -100006 else if what < 0 then (opr D home (N 0) (cn set 12).toNat home (qs set (N 0)) 0 (fun _ => 0)).1 else (opr D home (N 0) (cn set 12).toNat home (qs set (N 0)) 0 (fun _ => 0)).2 what))
theorem cn_cq {set nv : Int} (nv0 : 0 ≤ nv) (nv1 : nv ≤ 12) (h : inn set nv) : cq (qs set nv) nv = cn set 12 := by
  have e : cn set 12 = cn set nv := by
    unfold cn
    have : ∀ k : Nat, nv + k ≤ 12 → su (fun v => if tb set v then (1 : Int) else 0) (nv + k) = su (fun v => if tb set v then (1 : Int) else 0) nv := by
      intro k
      induction k with
      | zero => intro _; rw [show nv + ((0 : Nat) : Int) = nv by omega]
      | succ k ih =>
        intro hk
        rw [show nv + ((k + 1 : Nat) : Int) = nv + k + 1 by omega, su_1 (by omega), ih (by omega), if_neg (fun y => by have := h (nv + k) (by omega) (by omega) y; omega)]
        omega
    have := this (12 - nv).toNat (by omega)
    rw [show nv + ((12 - nv).toNat : Int) = 12 by omega] at this
    exact this
  rw [e]
  unfold cq cn
  refine su_congr (fun u u0 u1 => ?_)
  by_cases k : tb set u
  · rw [if_pos k, if_pos (show qs set nv u from ⟨u0, u1, k⟩)]
  · rw [if_neg k, if_neg (fun y : qs set nv u => k y.2.2)]
/-- ways as they are found: D, or -1 where there is none -/
def wyD (D : Int → Int → Int) (w : Int → Int) (a b : Int) : Prop := (w (12 * a + b) < 0 ∧ D a b = 1000000) ∨ (0 ≤ w (12 * a + b) ∧ w (12 * a + b) = D a b ∧ D a b ≤ 1188)
theorem L_Mround83 {N : Int → Int} {D : Int → Int → Int} {h0 : am_H} {home set what a : Int} {P : Int → am_H → Prop} (O : OL N) (eN : h0 57 = N) (a0' : 0 ≤ a) (a1' : a < N 0) (hw : ∀ b, 0 ≤ b → b < N 0 → (h0 59 b < 0 ∧ D a b = 1000000) ∨ (0 ≤ h0 59 b ∧ h0 59 b = D a b ∧ D a b ≤ 1188)) (H : ∀ h, (∀ p, p ≠ 73 → h p = h0 p) → (∀ j, (j < 12 * a ∨ 12 * a + 12 ≤ j) → h 73 j = h0 73 j) → (∀ b, 0 ≤ b → b < N 0 → wyD D (h 73) a b) → am_x (am_cd 11) 170 (am_qi P) 0 63 [some (.inr (.inr 56)), some (.inl home), some (.inl set), some (.inl what), some (.inl (a + 1)), none] [] h) : ∀ x5 h, 0 ≤ x5 → x5 ≤ N 0 → (∀ p, p ≠ 73 → h p = h0 p) → (∀ j, (j < 12 * a ∨ 12 * a + 12 ≤ j) → h 73 j = h0 73 j) → (∀ b, 0 ≤ b → b < x5 → wyD D (h 73) a b) → am_x (am_cd 11) 170 (am_qi P) 0 83 [some (.inr (.inr 56)), some (.inl home), some (.inl set), some (.inl what), some (.inl a), some (.inl x5)] [] h := by
  have hN := O.1
  refine upto (N 0) (fun x5 ih h a0 a1 a2 a3 a4 => ?_)
  refine g_Mo_round_83 ?_
  rw [a2 57 (by decide), eN]
  refine ⟨fun hc => ⟨by omega, H h a2 a3 (fun b b0 b1 => a4 b b0 (by omega))⟩, fun hc => ⟨⟨by omega, by omega, by omega, by omega, by omega⟩, ih hc _ (by omega) (by omega) (fun p hp => (up_ne hp).trans (a2 p hp)) (fun j hj => ?_) (fun b b0 b1 => ?_)⟩⟩
  · rw [up_same, if_neg (by omega)]; exact a3 j hj
  · unfold wyD
    rw [up_same]
    by_cases q : b = x5
    · rw [if_pos (by omega), a2 59 (by decide), q]; exact hw x5 a0 hc
    · rw [if_neg (by omega)]; exact a4 b b0 (by omega)
theorem L_Mround63 {N : Int → Int} {D : Int → Int → Int} {h0 : am_H} {home set what : Int} {P : Int → am_H → Prop} (O : OL N) (W : DW N D) (eN : h0 57 = N) (H : ∀ h, (∀ p, p ≠ 59 → p ≠ 73 → h p = h0 p) → (∀ a b, 0 ≤ a → a < N 0 → 0 ≤ b → b < N 0 → wyD D (h 73) a b) → am_x (am_cd 11) 170 (am_qi P) 0 129 [some (.inr (.inr 56)), some (.inl home), some (.inl set), some (.inl what), some (.inl 0), none] [] h) : ∀ x4 h, 0 ≤ x4 → x4 ≤ N 0 → (∀ p, p ≠ 59 → p ≠ 73 → h p = h0 p) → (∀ a b, 0 ≤ a → a < x4 → 0 ≤ b → b < N 0 → wyD D (h 73) a b) → am_x (am_cd 11) 170 (am_qi P) 0 63 [some (.inr (.inr 56)), some (.inl home), some (.inl set), some (.inl what), some (.inl x4), none] [] h := by
  have hN := O.1
  refine upto (N 0) (fun x4 ih h a0 a1 a2 a3 => ?_)
  have e57 : h 57 = N := (a2 57 (by decide) (by decide)).trans eN
  refine g_Mo_round_63 ?_
  rw [e57]
  refine ⟨fun hc => H h a2 (fun a b a0 a1 b0 b1 => a3 a b a0 (by omega) b0 b1), fun hc => am_liftv (Nat.le_of_ble_eq_true rfl) (S_MfindWalks O a0 hc e57 (fun h1 f1 w1 w2 => ?_))⟩
  refine L_Mround83 (h0 := h1) (D := D) O ((f1 57 (by decide)).trans e57) a0 hc (fun b b0 b1 => ?_) (fun h2 b2 b3 b4 => ih hc h2 (by omega) (by omega) (fun p p1 p2 => (b2 p p2).trans ((f1 p p1).trans (a2 p p1 p2))) (fun a b x0 x1 y0 y1 => ?_)) 0 h1 (by omega) hN.1 (fun _ _ => rfl) (fun _ _ => rfl) (fun b _ _ => by omega)
  · have e := isW_eq (W x4 a0 hc) w1 b0 b1
    have bd := w2 b b0 b1
    unfold Wof at e
    by_cases k : h1 59 b < 0
    · rw [if_pos k] at e; exact .inl ⟨k, e.symm⟩
    · rw [if_neg k] at e; exact .inr ⟨by omega, e, by omega⟩
  · by_cases q : a = x4
    · subst q; exact b4 b y0 y1
    · have := a3 a b x0 (by omega) y0 y1
      unfold wyD at this ⊢
      rw [b3 _ (by omega), f1 73 (by decide)]; exact this
theorem L_Mround129 {N : Int → Int} {D : Int → Int → Int} {h : am_H} {home set what : Int} {P : Int → am_H → Prop} (O : OL N) (W : DW N D) (eN : h 57 = N) (ho0 : 0 ≤ home) (ho1 : home < N 0) (ok : am_ok set) (is : inn set (N 0)) (nt : ¬ tb set home) (w0 : -1 ≤ what) (c7 : cn set 12 ≤ 7) (hw : ∀ a b, 0 ≤ a → a < N 0 → 0 ≤ b → b < N 0 → wyD D (h 73) a b) (hf : am_ok (h 56 3 + 1)) (H : ∀ h1, (∀ p, p ≠ 56 → p ≠ 74 → p ≠ 75 → h1 p = h p) → (∀ j, j ≠ 3 → j ≠ 25 → j ≠ 26 → j ≠ 27 → h1 56 j = h 56 j) → h1 56 3 = h 56 3 + (if rnd N D home set what < -99999 then 1 else 0) → P (rnd N D home set what) h1) : ∀ x4, 0 ≤ x4 → x4 ≤ N 0 → (∀ v, 0 ≤ v → v < x4 → tb set v → D home v < 1000000) → am_x (am_cd 11) 170 (am_qi P) 0 129 [some (.inr (.inr 56)), some (.inl home), some (.inl set), some (.inl what), some (.inl x4), none] [] h := by
  have hN := O.1
  have r1 : rnd N D home set what = @ite _ (∃ v, 0 ≤ v ∧ v < N 0 ∧ tb set v ∧ 1000000 ≤ D home v) (Classical.propDecidable _) (-100008) (if cn set 12 ≤ what then -100006 else if what < 0 then (opr D home (N 0) (cn set 12).toNat home (qs set (N 0)) 0 (fun _ => 0)).1 else (opr D home (N 0) (cn set 12).toNat home (qs set (N 0)) 0 (fun _ => 0)).2 what) := by
    unfold rnd
    rw [if_neg (fun y => y ⟨ho0, ho1, is, nt, w0⟩), if_neg (by omega)]
  have rg := inn_rng hN.2 ok is
  refine upto (N 0) (fun x4 ih a0 a1 a2 => ?_)
  refine g_Mo_round_129 ?_
  rw [eN]
  refine ⟨fun hc => ?_, fun hc => ⟨fun c => ⟨by omega, ih hc (by omega) (by omega) (fun v v0 v1 v2 => ?_)⟩, fun c => ⟨⟨by omega, by omega, by omega⟩, fun c2 => ⟨by omega, ih hc (by omega) (by omega) (fun v v0 v1 v2 => ?_)⟩, fun c2 => ⟨hf, ?_⟩⟩⟩⟩
  · have fin : ∀ v, 0 ≤ v → v < N 0 → tb set v → D home v < 1000000 := fun v v0 v1 v2 => a2 v v0 (by omega) v2
    have r2 : rnd N D home set what = if cn set 12 ≤ what then -100006 else if what < 0 then (opr D home (N 0) (cn set 12).toNat home (qs set (N 0)) 0 (fun _ => 0)).1 else (opr D home (N 0) (cn set 12).toNat home (qs set (N 0)) 0 (fun _ => 0)).2 what := by
      rw [r1, if_neg]
      rintro ⟨v, v0, v1, v2, v3⟩
      have := fin v v0 v1 v2
      omega
    refine am_lifti (Nat.le_of_ble_eq_true rfl) (S_McountOf rg.1 rg.2 ⟨fun c => ?_, fun c => ⟨hf, ?_⟩⟩)
    · rw [if_neg (by omega)] at r2
      have cb := cn_bd set
      let g : Int → Prop := fun u => 0 ≤ u ∧ u < N 0 ∧ D home u < 1000000
      have gh : g home := ⟨ho0, ho1, by rw [D_0 O W ho0 ho1]; omega⟩
      have gD : ∀ u v, g u → g v → 0 ≤ D u v ∧ D u v ≤ 1188 := fun u v gu gv => ⟨(D_bd W gu.1 gu.2.1 gv.1 gv.2.1).1, D_fin O W ho0 ho1 gu.1 gu.2.1 gv.1 gv.2.1 gu.2.2 gv.2.2⟩
      have hD : ∀ u v, 0 ≤ u → u < N 0 → 0 ≤ v → v < N 0 → 0 ≤ D u v ∧ D u v ≤ 1000000 := fun u v u0 u1 v0 v1 => by have := D_bd W u0 u1 v0 v1; omega
      have cqe := cn_cq hN.1 hN.2 is
      have ub := opr_ub (fun u v u0 u1 v0 v1 => (hD u v u0 u1 v0 v1).2) ho0 ho1 (cn set 12).toNat home (qs set (N 0)) 0 (fun _ => 0) ho0 ho1 (fun u y => ⟨y.1, y.2.1⟩) (by rw [cqe]; omega)
      have rg2 := opr_rg (fun u v u0 u1 v0 v1 => (hD u v u0 u1 v0 v1).2) ho0 ho1 (cn set 12).toNat home (qs set (N 0)) 0 (fun _ => 0) ho0 ho1 (fun u y => ⟨y.1, y.2.1⟩) (by rw [cqe]; omega) (by omega) (fun i _ _ => Int.le_refl _) (Int.le_refl _)
      have lb := opr_0 (fun u v u0 u1 v0 v1 => (hD u v u0 u1 v0 v1).1) ho0 ho1 (cn set 12).toNat home (qs set (N 0)) 0 (fun _ => 0) ho0 ho1 (fun u y => y.2.1)
      generalize hho : opr D home (N 0) (cn set 12).toNat home (qs set (N 0)) 0 (fun _ => 0) = op at *
      have ue : ∀ R', up0 100000000 R' 0 op = op := by
        intro R'
        unfold up0
        rw [if_pos (by omega)]
        show (0 + _, _) = _
        rw [Int.zero_add]
      have hu : ∀ p, p ≠ 56 → am_up (am_up (am_up h 56 27 (cn set 12)) 56 26 home) 56 25 (-1) p = h p := fun p hp => by rw [up_ne hp, up_ne hp, up_ne hp]
      have hj : ∀ j, am_up (am_up (am_up h 56 27 (cn set 12)) 56 26 home) 56 25 (-1) 56 j = if j = 25 then -1 else if j = 26 then home else if j = 27 then cn set 12 else h 56 j := fun j => by rw [up_same, up_same, up_same]
      refine am_liftv (d := 11) (D := 10 + 1) (by omega) (S_Mgoes (D := D) (home := home) (nv := N 0) (t := cn set 12) (g := g) hN.2 (fun u gu => ⟨gu.1, gu.2.1⟩) gh gD hD c7 (cn set 12).toNat 10 home set 0 0 100000000 (fun _ => 0) (h 75) _ _ (by omega) (by omega) (by omega) gh ok is (fun u y => ⟨y.1, y.2.1, fin u y.1 y.2.1 y.2.2⟩) (by rw [cqe]; omega) (by omega) (by omega) (by rw [hu 57 (by decide), eN]) (by rw [hj 26]; rfl) (fun u v gu gv => ?_) (fun i _ _ => by omega) ⟨.inl ⟨by rw [hj 25]; rfl, rfl⟩, fun i _ _ => by rw [hu 75 (by decide)]⟩ (fun h3 p3 w3 => ?_))
      · rw [hu 73 (by decide)]
        rcases hw u v gu.1 gu.2.1 gv.1 gv.2.1 with y | y
        · have := gD u v gu gv; omega
        · exact y.2.1
      · rw [hho, ue] at w3
        have fr : ∀ p, p ≠ 56 → p ≠ 74 → p ≠ 75 → h3 p = h p := fun p p1 p2 p3' => (p3.1 p p1 p2 p3').trans (hu p p1)
        have f3 : ∀ j, j ≠ 25 → j ≠ 26 → j ≠ 27 → h3 56 j = h 56 j := fun j j1 j2 j3 => by rw [p3.2.1 j j1, hj j, if_neg j1, if_neg j2, if_neg j3]
        refine ⟨fun c2 => ⟨by omega, ?_⟩, fun c2 => ?_⟩
        · rw [if_neg (by omega)] at r2
          rw [w3.2 what c2 (by omega), ← r2]
          refine H h3 fr (fun j j0 j1 j2 j3 => f3 j j1 j2 j3) ?_
          have z := rg2 what c2 (by omega)
          rw [f3 3 (by decide) (by decide) (by decide), r2, if_neg (by omega)]; omega
        · rw [if_pos c2] at r2
          have e25 : h3 56 25 = op.1 := by rcases w3.1 with y | y <;> omega
          rw [e25, ← r2]
          refine H h3 fr (fun j j0 j1 j2 j3 => f3 j j1 j2 j3) ?_
          rw [f3 3 (by decide) (by decide) (by decide), r2, if_neg (by omega)]; omega
    · rw [if_pos c] at r2
      rw [← r2]
      refine H _ (fun p p1 p2 p3 => by rw [up_ne p1, up_ne p1]) (fun j j0 j1 j2 j3 => by rw [up_same, if_neg j0, up_same, if_neg j3]) ?_
      rw [up_same, if_pos rfl, r2, if_pos (by decide)]
  · rcases (show v < x4 ∨ v = x4 by omega) with q | q
    · exact a2 v v0 q v2
    · subst q; exact absurd ((shr1 v0 (by omega)).1.mpr v2) c
  · rcases (show v < x4 ∨ v = x4 by omega) with q | q
    · exact a2 v v0 q v2
    · subst q
      rcases hw home v ho0 ho1 v0 (by omega) with y | y
      · omega
      · omega
  · have tv := (shr1 a0 (by omega)).1.mp c
    have r3 : rnd N D home set what = -100008 := by
      rw [r1, if_pos]
      refine ⟨x4, a0, hc, tv, ?_⟩
      rcases hw home x4 ho0 ho1 a0 hc with y | y <;> omega
    rw [← r3]
    refine H _ (fun p p1 p2 p3 => up_ne p1) (fun j j0 j1 j2 j3 => by rw [up_same, if_neg j0]) ?_
    rw [up_same, if_pos rfl, r3, if_pos (by decide)]

theorem S_Mround {N : Int → Int} {D : Int → Int → Int} {h : am_H} {home set what : Int} {P : Int → am_H → Prop} (O : OL N) (W : DW N D) (eN : h 57 = N) (ok : am_ok set) (hf : am_ok (h 56 3 + 1)) (H : ∀ h1, (∀ p, p ≠ 56 → p ≠ 59 → p ≠ 73 → p ≠ 74 → p ≠ 75 → h1 p = h p) → (∀ j, j ≠ 3 → j ≠ 25 → j ≠ 26 → j ≠ 27 → h1 56 j = h 56 j) → h1 56 3 = h 56 3 + (if rnd N D home set what < -99999 then 1 else 0) → P (rnd N D home set what) h1) : ∃ a_ h_, am_cd 12 170 [.inr (.inr 56), .inl home, .inl set, .inl what] h (some (.inl a_)) h_ ∧ P a_ h_ := by
  have hN := O.1
  have er : ∀ c, rnd N D home set what = c → c < -99999 → P c (am_up h 56 3 (h 56 3 + 1)) := by
    intro c e l
    rw [← e]
    refine H _ (fun p p1 _ _ _ _ => up_ne p1) (fun j j0 _ _ _ => by rw [up_same, if_neg j0]) ?_
    rw [up_same, if_pos rfl, e, if_pos l]
  have bad : ¬ (0 ≤ home ∧ home < N 0 ∧ inn set (N 0) ∧ ¬ tb set home ∧ -1 ≤ what) → am_ok (h 56 3 + 1) ∧ P (-100001) (am_up h 56 3 (h 56 3 + 1)) := fun k => ⟨hf, er _ (by unfold rnd; rw [if_pos k]) (by decide)⟩
  refine e_Mo_round ?_
  rw [eN]
  refine ⟨by omega, fun c => ⟨fun c2 => bad ?_, fun c2 => ⟨fun c3 => bad ?_, fun c3 => ⟨fun c4 => bad ?_, fun c4 => ⟨fun c5 => ?_, fun c5 => bad ?_⟩⟩⟩⟩, fun c => bad ?_⟩
  · rintro ⟨_, _, k, _, _⟩; have := inn_rng hN.2 ok k; omega
  · rintro ⟨_, _, k, _, _⟩; exact c3 ((shr0_iff ok hN.1 hN.2).mpr k).2
  · rintro ⟨_, _, _, k, _⟩; exact k ((shr1 c.1 (by omega)).1.mp c4)
  · have is : inn set (N 0) := (shr0_iff ok hN.1 hN.2).mp ⟨c2, c3⟩
    have nt : ¬ tb set home := fun y => c4 ((shr1 c.1 (by omega)).1.mpr y)
    have rg := inn_rng hN.2 ok is
    refine am_lifti (Nat.le_of_ble_eq_true rfl) (S_McountOf rg.1 rg.2 ⟨fun c6 => ?_, fun c6 => ⟨hf, er _ ?_ (by decide)⟩⟩)
    · refine L_Mround63 (D := D) (h0 := h) O W eN (fun h1 f1 w1 => ?_) 0 h (by omega) hN.1 (fun _ _ _ => rfl) (fun a b _ _ _ _ => by omega)
      have e56 : h1 56 = h 56 := f1 56 (by decide) (by decide)
      refine L_Mround129 O W ((f1 57 (by decide) (by decide)).trans eN) c.1 (by omega) ok is nt c5 c6 w1 (by rw [e56]; exact hf) (fun h2 f2 g2 z2 => H h2 (fun p p1 p2 p3 p4 p5 => (f2 p p1 p4 p5).trans (f1 p p2 p3)) (fun j j0 j1 j2 j3 => by rw [g2 j j0 j1 j2 j3, e56]) (by rw [z2, e56])) 0 (by omega) hN.1 (fun v _ _ => by omega)
    · unfold rnd
      rw [if_neg (fun y => y ⟨c.1, by omega, is, nt, c5⟩), if_pos c6]
  · rintro ⟨_, _, _, _, k⟩; omega
  · rintro ⟨k, k2, _, _, _⟩; exact c ⟨by omega, by omega⟩
