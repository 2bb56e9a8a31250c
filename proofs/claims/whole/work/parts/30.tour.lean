/-! the class's tours -/
theorem bv_nat {a : Int} (a0 : 0 ≤ a) (a1 : am_ok a) : ((bv a).toNat : Int) = a := by
  unfold bv
  rw [BitVec.toNat_ofInt]
  omega
theorem sub_le {a b : Int} (a0 : 0 ≤ a) (a1 : am_ok a) (b0 : 0 ≤ b) (b1 : am_ok b) (h : ∀ v, 0 ≤ v → v < 32 → tb a v → tb b v) : a ≤ b := by
  have e : bv a ||| bv b = bv b := by
    apply BitVec.eq_of_getLsbD_eq
    intro i hi
    have := h i (by omega) (by omega)
    rw [tb_bv hi, tb_bv hi] at this
    rw [BitVec.getLsbD_or]
    cases k : (bv a).getLsbD i
    · rfl
    · rw [this k]; rfl
  have e2 := congrArg BitVec.toNat e
  rw [BitVec.toNat_or] at e2
  have := Nat.left_le_or (m := (bv b).toNat) (n := (bv a).toNat)
  have x := bv_nat a0 a1
  have y := bv_nat b0 b1
  omega
theorem inn_lt {s n : Int} (s0 : 0 ≤ s) (n0 : 0 ≤ n) (n1 : n ≤ 12) (h : s < am_shl 1 n) : inn s n := by
  intro v v0 v1 k
  have sh := shl_ok n0 n1
  have z : ∀ n : Fin 13, am_shl 1 (n.val : Int) = ((2 ^ n.val : Nat) : Int) := by decide +kernel
  have z2 := z ⟨n.toNat, by omega⟩
  rw [show (((⟨n.toNat, by omega⟩ : Fin 13).val : Nat) : Int) = n by show ((n.toNat : Nat) : Int) = n; omega] at z2
  rcases Int.lt_or_le v n with q | q
  · exact q
  · exfalso
    rw [tb_nat v0 v1] at k
    have e := bv_nat s0 (by omega)
    have lt : (bv s).toNat < 2 ^ v.toNat := by
      have : 2 ^ n.toNat ≤ 2 ^ v.toNat := Nat.pow_le_pow_right (by omega) (by omega)
      have z3 : am_shl 1 n = ((2 ^ n.toNat : Nat) : Int) := z2
      omega
    have := Nat.testBit_lt_two_pow lt
    rw [BitVec.getLsbD, this] at k
    exact absurd k (by decide)
theorem inn_le {s n : Int} (n0 : 0 ≤ n) (n1 : n ≤ 12) (so : am_ok s) (h : inn s n) : 0 ≤ s ∧ s ≤ am_shl 1 n - 1 := by
  have r := inn_rng n1 so h
  have sh := shl_ok n0 n1
  exact ⟨r.1, sub_le r.1 so (by omega) (by omega) (fun v v0 v1 k => (tb_all v0 v1 n0 n1).mpr (h v v0 v1 k))⟩
/-- the stops: set's villages in their order, then home -/
def TV (nv set home st : Int) (V : Int → Int) : Prop := (0 ≤ st ∧ st ≤ 7) ∧ (∀ i, 0 ≤ i → i < st → 0 ≤ V i ∧ V i < nv ∧ tb set (V i)) ∧ (∀ i j, 0 ≤ i → i < j → j < st → V i < V j) ∧ (∀ u, qs set nv u → ∃ i, 0 ≤ i ∧ i < st ∧ V i = u) ∧ V st = home
def qv (nv set st : Int) (V : Int → Int) (s : Int) : Int → Prop := fun u => qs set nv u ∧ ∀ i, 0 ≤ i → i < st → V i = u → ¬ tb s i
theorem TV_inj {nv set home st : Int} {V : Int → Int} (T : TV nv set home st V) {i j : Int} (i0 : 0 ≤ i) (i1 : i < st) (j0 : 0 ≤ j) (j1 : j < st) (e : V i = V j) : i = j := by
  rcases Int.lt_trichotomy i j with q | q | q
  · have := T.2.2.1 i j i0 q j1; omega
  · exact q
  · have := T.2.2.1 j i j0 q i1; omega
theorem qv_in {nv set home st s i : Int} {V : Int → Int} (T : TV nv set home st V) (i0 : 0 ≤ i) (i1 : i < st) : qv nv set st V s (V i) ↔ ¬ tb s i := by
  constructor
  · intro k; exact k.2 i i0 i1 rfl
  · intro k
    refine ⟨T.2.1 i i0 i1, fun j j0 j1 e => ?_⟩
    rw [TV_inj T j0 j1 i0 i1 e]; exact k
theorem qv_del {nv set home st s i : Int} {V : Int → Int} (T : TV nv set home st V) (i0 : 0 ≤ i) (i1 : i < st) : qv nv set st V (am_or s (am_shl 1 i)) = fun u => qv nv set st V s u ∧ u ≠ V i := by
  have := T.1
  funext u
  apply propext
  constructor
  · rintro ⟨k1, k2⟩
    refine ⟨⟨k1, fun j j0 j1 e y => k2 j j0 j1 e ((tb_add j0 (by omega) i0 (by omega)).mpr (.inl y))⟩, fun e => ?_⟩
    exact k2 i i0 i1 e.symm ((tb_add i0 (by omega) i0 (by omega)).mpr (.inr rfl))
  · rintro ⟨⟨k1, k2⟩, k3⟩
    refine ⟨k1, fun j j0 j1 e y => ?_⟩
    rcases (tb_add j0 (by omega) i0 (by omega)).mp y with z | z
    · exact k2 j j0 j1 e z
    · subst z; exact k3 e.symm
theorem qv_0 {nv set st : Int} {V : Int → Int} : qv nv set st V 0 = qs set nv := by
  funext u
  apply propext
  exact ⟨fun k => k.1, fun k => ⟨k, fun _ _ _ _ => tb_zero⟩⟩
theorem rdf_gap {f : Int → Int × (Int → Int)} {c : Int → Int} {q : Int → Prop} {r : Int → Int} {a : Int} (a0 : 0 ≤ a) : ∀ k : Nat, (∀ v, a ≤ v → v < a + k → ¬ q v) → rdf f c q r (a + k).toNat = rdf f c q r a.toNat
  | 0, _ => by rw [show a + ((0 : Nat) : Int) = a by omega]
  | k + 1, h => by rw [show a + ((k + 1 : Nat) : Int) = a + k + 1 by omega, rdf_n (by omega) (h (a + k) (by omega) (by omega)), rdf_gap a0 k (fun v v0 v1 => h v v0 (by omega))]
def bb (V : Int → Int) (st nv x : Int) : Int := if x < st then V x else nv
theorem bb_0 {nv set home st s : Int} {V : Int → Int} {f : Int → Int × (Int → Int)} {c : Int → Int} {r : Int → Int} (nv0 : 0 ≤ nv) (T : TV nv set home st V) : rdf f c (qv nv set st V s) r (bb V st nv 0).toNat = (100000000, r) := by
  have b0 : 0 ≤ bb V st nv 0 := by
    unfold bb
    by_cases k : 0 < st
    · rw [if_pos k]; exact (T.2.1 0 (by omega) k).1
    · rw [if_neg k]; exact nv0
  have := rdf_gap (f := f) (c := c) (q := qv nv set st V s) (r := r) (a := 0) (by omega) (bb V st nv 0).toNat (fun v v0 v1 y => by
    obtain ⟨i, i0, i1, e⟩ := T.2.2.2.1 v y.1
    unfold bb at v1
    rw [if_pos (by omega)] at v1
    have z0 := (T.2.1 0 (by omega) (by omega)).1
    rcases (show i = 0 ∨ 0 < i by omega) with z | z
    · subst z; omega
    · have := T.2.2.1 0 i (by omega) z i1; omega)
  rw [show (0 : Int) + ((bb V st nv 0).toNat : Int) = bb V st nv 0 by omega] at this
  rw [this]; rfl
theorem bb_s {nv set home st s x : Int} {V : Int → Int} {f : Int → Int × (Int → Int)} {c : Int → Int} {r : Int → Int} (T : TV nv set home st V) (x0 : 0 ≤ x) (x1 : x < st) : rdf f c (qv nv set st V s) r (bb V st nv (x + 1)).toNat = rdf f c (qv nv set st V s) r (V x + 1).toNat ∧ bb V st nv x = V x := by
  have vx := T.2.1 x x0 x1
  refine ⟨?_, by unfold bb; rw [if_pos x1]⟩
  have b0 : V x + 1 ≤ bb V st nv (x + 1) := by
    unfold bb
    by_cases k : x + 1 < st
    · rw [if_pos k]; have := T.2.2.1 x (x + 1) x0 (by omega) k; omega
    · rw [if_neg k]; omega
  have := rdf_gap (f := f) (c := c) (q := qv nv set st V s) (r := r) (a := V x + 1) (by omega) (bb V st nv (x + 1) - (V x + 1)).toNat (fun v v0 v1 y => by
    obtain ⟨i, i0, i1, e⟩ := T.2.2.2.1 v y.1
    have xi : x < i := by
      rcases Int.lt_or_le x i with z | z
      · exact z
      · rcases (show i = x ∨ i < x by omega) with w | w
        · subst w; omega
        · have := T.2.2.1 i x i0 w x1; omega
    unfold bb at v1 b0
    rw [if_pos (by omega)] at v1 b0
    rcases (show i = x + 1 ∨ x + 1 < i by omega) with z | z
    · subst z; omega
    · have := T.2.2.1 (x + 1) i (by omega) z i1; omega)
  rw [show V x + 1 + ((bb V st nv (x + 1) - (V x + 1)).toNat : Int) = bb V st nv (x + 1) by omega] at this
  exact this
/-- what lies in the tour's cells -/
def TH (h : am_H) (D : Int → Int → Int) (st : Int) (V : Int → Int) : Prop := h 39 1 = st ∧ (∀ a b, 0 ≤ a → a ≤ st → 0 ≤ b → b ≤ st → h 41 (8 * a + b) = D (V a) (V b))
theorem S_nextStop {h : am_H} {D : Int → Int → Int} {nv set home st s at' met : Int} {V r : Int → Int} {m : Nat} {P : Int → am_H → Prop} (nv0 : 0 ≤ nv) (nv1 : nv ≤ 12) (T : TV nv set home st V) (ho : 0 ≤ home ∧ home < nv) (B : TH h D st V) (hD : ∀ u v, 0 ≤ u → u < nv → 0 ≤ v → v < nv → 0 ≤ D u v ∧ D u v ≤ 1000000) (t0 : 0 ≤ at') (t1 : at' ≤ st) (so : am_ok s) (si : inn s st) (hm : cq (qv nv set st V s) nv = m) (h42 : ∀ i, 0 ≤ i → i < st → ¬ tb s i → h 42 (7 * am_or s (am_shl 1 i) + i) = (opr D home nv (m - 1) (V i) (qv nv set st V (am_or s (am_shl 1 i))) 0 (fun _ => 0)).1)
    (H : ∀ a, (a = -1 ∧ m = 0) ∨ (0 ≤ a ∧ a < st ∧ ¬ tb s a ∧ 0 < m ∧ opr D home nv m (V at') (qv nv set st V s) met r = (D (V at') (V a) + (opr D home nv (m - 1) (V a) (qv nv set st V (am_or s (am_shl 1 a))) (met + 1) (updr r met (V a))).1, (opr D home nv (m - 1) (V a) (qv nv set st V (am_or s (am_shl 1 a))) (met + 1) (updr r met (V a))).2)) → P a h) : ∃ a_ h_, am_cd 2 105 [.inr (.inr 39), .inl s, .inl at'] h (some (.inl a_)) h_ ∧ P a_ h_ := by
  have hst := T.1
  have Vb : ∀ i, 0 ≤ i → i ≤ st → 0 ≤ V i ∧ V i < nv := fun i i0 i1 => by
    rcases (show i = st ∨ i < st by omega) with z | z
    · rw [z, T.2.2.2.2]; exact ho
    · exact ⟨(T.2.1 i i0 z).1, (T.2.1 i i0 z).2.1⟩
  have sr := inn_le hst.1 (by omega) so si
  have s7 : am_shl 1 st ≤ 128 := by
    have := inn_le (s := am_shl 1 st - 1) (n := 7) (by omega) (by omega) (by have := shl_ok hst.1 (by omega); omega) (fun v v0 v1 k => by have := (tb_all v0 v1 hst.1 (by omega)).mp k; omega)
    have e : am_shl 1 7 = 128 := by decide
    omega
  generalize hf : (fun v => opr D home nv (m - 1) v (fun u => qv nv set st V s u ∧ u ≠ v) (met + 1) (updr r met v)) = f
  have fe : ∀ i, 0 ≤ i → i < st → f (V i) = opr D home nv (m - 1) (V i) (qv nv set st V (am_or s (am_shl 1 i))) (met + 1) (updr r met (V i)) := fun i i0 i1 => by rw [← hf, qv_del T i0 i1]
  have f1 : ∀ i, 0 ≤ i → i < st → ¬ tb s i → h 42 (7 * am_or s (am_shl 1 i) + i) = (f (V i)).1 ∧ 0 ≤ (f (V i)).1 ∧ (f (V i)).1 ≤ 20000000 ∧ 0 ≤ am_or s (am_shl 1 i) ∧ am_or s (am_shl 1 i) < 128 := fun i i0 i1 k => by
    have vb := Vb i i0 (by omega)
    have io : inn (am_or s (am_shl 1 i)) st := fun v v0 v1 k => by
      rcases (tb_add v0 v1 i0 (by omega)).mp k with z | z
      · exact si v v0 v1 z
      · omega
    have rg := inn_le hst.1 (by omega) (ok_or _ _) io
    have kq := (qv_in (s := s) T i0 i1).mpr k
    have cd : cq (qv nv set st V (am_or s (am_shl 1 i))) nv = (m - 1 : Nat) := by
      rw [qv_del T i0 i1, cq_del vb.1 vb.2 kq, hm]
      have := cq_n0 vb.1 vb.2 kq
      omega
    have cm : cq (qv nv set st V s) nv ≤ 12 := by have := (cq_bd (q := qv nv set st V s) nv0).2; omega
    have ub := opr_ub (fun u v u0 u1 v0 v1 => (hD u v u0 u1 v0 v1).2) ho.1 ho.2 (m - 1) (V i) (qv nv set st V (am_or s (am_shl 1 i))) (met + 1) (updr r met (V i)) vb.1 vb.2 (fun u y => ⟨y.1.1, y.1.2.1⟩) cd
    have lb := opr_0 (fun u v u0 u1 v0 v1 => (hD u v u0 u1 v0 v1).1) ho.1 ho.2 (m - 1) (V i) (qv nv set st V (am_or s (am_shl 1 i))) (met + 1) (updr r met (V i)) vb.1 vb.2 (fun u y => y.1.2.1)
    rw [fe i i0 i1]
    exact ⟨(h42 i i0 i1 k).trans (opr_1 _ _ _ _ _ _ _), lb, by omega, rg.1, by omega⟩
  have key : ∀ x4 x3, 0 ≤ x4 → x4 ≤ st → ((x3 = -1 ∧ (∀ i, 0 ≤ i → i < x4 → tb s i) ∧ rdf f (fun v => D (V at') v) (qv nv set st V s) r (bb V st nv x4).toNat = (100000000, r)) ∨ (0 ≤ x3 ∧ x3 < x4 ∧ ¬ tb s x3 ∧ rdf f (fun v => D (V at') v) (qv nv set st V s) r (bb V st nv x4).toNat = (D (V at') (V x3) + (f (V x3)).1, (f (V x3)).2))) → am_x (am_cd 1) 105 (am_qi P) 0 5 [some (.inr (.inr 39)), some (.inl s), some (.inl at'), some (.inl x3), some (.inl x4), none] [] h := by
    refine upto st (fun x4 ih x3 a0 a1 a2 => ?_)
    refine g_Tour_nextStop_5 ?_
    rw [B.1]
    refine ⟨fun hc => ?_, fun hc => ?_⟩
    · have e : x4 = st := by omega
      subst e
      have b1 : bb V x4 nv x4 = nv := by unfold bb; rw [if_neg (by omega)]
      rw [b1] at a2
      refine H x3 ?_
      rcases a2 with ⟨y1, y2, _⟩ | ⟨y1, y2, y3, y4⟩
      · refine .inl ⟨y1, ?_⟩
        have := cq_0 (q := qv nv set x4 V s) (n := nv) (fun u u0 u1 k => ?_) nv0
        · omega
        · obtain ⟨i, i0, i1, e⟩ := T.2.2.2.1 u k.1
          exact k.2 i i0 i1 e (y2 i i0 i1)
      · have vb := Vb x3 y1 (by omega)
        have n0 := cq_n0 vb.1 vb.2 ((qv_in (s := s) T y1 y2).mpr y3)
        refine .inr ⟨y1, y2, y3, by omega, ?_⟩
        have oe : opr D home nv m (V at') (qv nv set x4 V s) met r = rdf f (fun v => D (V at') v) (qv nv set x4 V s) r nv.toNat := by
          rw [← hf]
          obtain ⟨m', rfl⟩ : ∃ m', m = m' + 1 := ⟨m - 1, by omega⟩
          rfl
        rw [oe, y4, fe x3 y1 y2]
    · have bs := bb_s (s := s) (f := f) (c := fun v => D (V at') v) (r := r) T a0 hc
      have vb := Vb x4 a0 (by omega)
      rw [bs.2] at a2
      refine ⟨fun c => ⟨by omega, ih hc x3 (by omega) (by omega) ?_⟩, fun c => ?_⟩
      · have q : ¬ qv nv set st V s (V x4) := fun y => (qv_in (s := s) T a0 hc).mp y c
        rw [bs.1, rdf_n vb.1 q]
        rcases a2 with ⟨y1, y2, y3⟩ | ⟨y1, y2, y3, y4⟩
        · refine .inl ⟨y1, fun i i0 i1 => ?_, y3⟩
          rcases (show i = x4 ∨ i < x4 by omega) with z | z
          · rw [z]; exact c
          · exact y2 i i0 z
        · exact .inr ⟨y1, by omega, y3, y4⟩
      · have nt := tb_eq.mp c
        have q := (qv_in (s := s) T a0 hc).mpr nt
        have g := f1 x4 a0 hc nt
        have d4 := hD (V at') (V x4) (Vb at' t0 t1).1 (Vb at' t0 t1).2 vb.1 vb.2
        have rs := rdf_s (f := f) (c := fun v => D (V at') v) (q := qv nv set st V s) (r := r) vb.1
        refine ⟨fun c3 => ⟨by omega, ih hc x4 (by omega) (by omega) (.inr ⟨a0, by omega, nt, ?_⟩)⟩, fun c3 => ?_⟩
        · rw [bs.1, rs]
          rcases a2 with ⟨y1, y2, y3⟩ | ⟨y1, y2, y3, y4⟩
          · rw [if_pos]
            refine ⟨q, ?_⟩
            rw [y3]
            show D (V at') (V x4) + (f (V x4)).1 < 100000000
            omega
          · omega
        · rcases a2 with ⟨y1, y2, y3⟩ | ⟨y1, y2, y3, y4⟩
          · exact absurd y1 c3
          · have g3 := f1 x3 y1 (by omega) y3
            have d3 := hD (V at') (V x3) (Vb at' t0 t1).1 (Vb at' t0 t1).2 (Vb x3 y1 (by omega)).1 (Vb x3 y1 (by omega)).2
            rw [B.2 at' x4 t0 t1 a0 a1, B.2 at' x3 t0 t1 y1 (by omega), g.1, g3.1]
            refine ⟨⟨by omega, by omega, by omega, by omega, by omega, by omega, by omega⟩, ⟨by omega, by omega, by omega, by omega, by omega, by omega⟩, fun c4 => ⟨by omega, ih hc x3 (by omega) (by omega) (.inr ⟨y1, by omega, y3, ?_⟩)⟩, fun c4 => ⟨by omega, ih hc x4 (by omega) (by omega) (.inr ⟨a0, by omega, nt, ?_⟩)⟩⟩
            · rw [bs.1, rs, y4, if_neg]
              rintro ⟨_, z⟩
              have z' : D (V at') (V x4) + (f (V x4)).1 < D (V at') (V x3) + (f (V x3)).1 := z
              omega
            · rw [bs.1, rs, y4, if_pos]
              refine ⟨q, ?_⟩
              exact c4
  refine e_Tour_nextStop (key 0 (-1) (by omega) hst.1 (.inl ⟨rfl, fun i _ _ => by omega, bb_0 nv0 T⟩))
theorem S_restOf {h : am_H} {D : Int → Int → Int} {nv set home st s at' : Int} {V : Int → Int} {m : Nat} {P : Int → am_H → Prop} (nv0 : 0 ≤ nv) (nv1 : nv ≤ 12) (T : TV nv set home st V) (ho : 0 ≤ home ∧ home < nv) (B : TH h D st V) (hD : ∀ u v, 0 ≤ u → u < nv → 0 ≤ v → v < nv → 0 ≤ D u v ∧ D u v ≤ 1000000) (t0 : 0 ≤ at') (t1 : at' ≤ st) (so : am_ok s) (si : inn s st) (hm : cq (qv nv set st V s) nv = m) (h42 : ∀ i, 0 ≤ i → i < st → ¬ tb s i → h 42 (7 * am_or s (am_shl 1 i) + i) = (opr D home nv (m - 1) (V i) (qv nv set st V (am_or s (am_shl 1 i))) 0 (fun _ => 0)).1) (H : P (opr D home nv m (V at') (qv nv set st V s) 0 (fun _ => 0)).1 h) : ∃ a_ h_, am_cd 3 152 [.inr (.inr 39), .inl s, .inl at'] h (some (.inl a_)) h_ ∧ P a_ h_ := by
  have hst := T.1
  refine e_Tour_restOf (am_lifti (Nat.le_of_ble_eq_true rfl) (S_nextStop (met := 0) (r := fun _ => 0) nv0 nv1 T ho B hD t0 t1 so si hm h42 (fun a y => ?_)))
  rcases y with ⟨y1, y2⟩ | ⟨y1, y2, y3, y4, y5⟩
  · refine ⟨fun c => absurd y1 c, fun _ => ?_⟩
    subst y2
    rw [B.1, B.2 at' st t0 t1 hst.1 (by omega), T.2.2.2.2]
    exact ⟨⟨by omega, by omega, by omega⟩, H⟩
  · refine ⟨fun _ => ?_, fun c => absurd c (by omega)⟩
    rw [h42 a y1 y2 y3, B.2 at' a t0 t1 y1 (by omega)]
    rw [y5] at H
    have io : inn (am_or s (am_shl 1 a)) st := fun v v0 v1 k => by
      rcases (tb_add v0 v1 y1 (by omega)).mp k with z | z
      · exact si v v0 v1 z
      · omega
    have rg := inn_le hst.1 (by omega) (ok_or _ _) io
    have vb := T.2.1 a y1 y2
    have ab : 0 ≤ V at' ∧ V at' < nv := by
      rcases (show at' = st ∨ at' < st by omega) with z | z
      · rw [z, T.2.2.2.2]; exact ho
      · exact ⟨(T.2.1 at' t0 z).1, (T.2.1 at' t0 z).2.1⟩
    have kq := (qv_in (s := s) T y1 y2).mpr y3
    have cd : cq (qv nv set st V (am_or s (am_shl 1 a))) nv = (m - 1 : Nat) := by
      rw [qv_del T y1 y2, cq_del vb.1 vb.2.1 kq, hm]; omega
    have cm := (cq_bd (q := qv nv set st V s) nv0).2
    have ub := opr_ub (fun u v u0 u1 v0 v1 => (hD u v u0 u1 v0 v1).2) ho.1 ho.2 (m - 1) (V a) (qv nv set st V (am_or s (am_shl 1 a))) 0 (fun _ => 0) vb.1 vb.2.1 (fun u y => ⟨y.1.1, y.1.2.1⟩) cd
    have lb := opr_0 (fun u v u0 u1 v0 v1 => (hD u v u0 u1 v0 v1).1) ho.1 ho.2 (m - 1) (V a) (qv nv set st V (am_or s (am_shl 1 a))) 0 (fun _ => 0) vb.1 vb.2.1 (fun u y => y.1.2.1)
    have dd := hD (V at') (V a) ab.1 ab.2 vb.1 vb.2.1
    have H' : P (D (V at') (V a) + (opr D home nv (m - 1) (V a) (qv nv set st V (am_or s (am_shl 1 a))) (0 + 1) (updr (fun _ => 0) 0 (V a))).1) h := H
    rw [opr_1 (m - 1) (V a) _ (0 + 1) 0 _ (fun _ => 0)] at H'
    have s7 : am_shl 1 st ≤ 128 := by
      have := inn_le (s := am_shl 1 st - 1) (n := 7) (by omega) (by omega) (by have := shl_ok hst.1 (by omega); omega) (fun v v0 v1 k => by have := (tb_all v0 v1 hst.1 (by omega)).mp k; omega)
      have e : am_shl 1 7 = 128 := by decide
      omega
    exact ⟨⟨by omega, by omega, by omega, by omega, by omega, by omega, by omega⟩, H'⟩
/-- the rests of all sets above s -/
def TR (h : am_H) (D : Int → Int → Int) (nv set home st : Int) (V : Int → Int) (s : Int) : Prop := ∀ s' i, s < s' → am_ok s' → inn s' st → 0 ≤ i → i < st → tb s' i → h 42 (7 * s' + i) = (opr D home nv (cq (qv nv set st V s') nv).toNat (V i) (qv nv set st V s') 0 (fun _ => 0)).1
theorem TR_42 {h : am_H} {D : Int → Int → Int} {nv set home st s : Int} {V : Int → Int} {m : Nat} (nv0 : 0 ≤ nv) (T : TV nv set home st V) (so : am_ok s) (si : inn s st) (hm : cq (qv nv set st V s) nv = m) (R : TR h D nv set home st V s) : ∀ i, 0 ≤ i → i < st → ¬ tb s i → h 42 (7 * am_or s (am_shl 1 i) + i) = (opr D home nv (m - 1) (V i) (qv nv set st V (am_or s (am_shl 1 i))) 0 (fun _ => 0)).1 := by
  intro i i0 i1 k
  have hst := T.1
  have vb := T.2.1 i i0 i1
  have io : inn (am_or s (am_shl 1 i)) st := fun v v0 v1 k => by
    rcases (tb_add v0 v1 i0 (by omega)).mp k with z | z
    · exact si v v0 v1 z
    · omega
  have rg := inn_le hst.1 (by omega) (ok_or _ _) io
  have sg := inn_le hst.1 (by omega) so si
  have lt : s < am_or s (am_shl 1 i) := by
    have le := sub_le sg.1 so rg.1 (ok_or s (am_shl 1 i)) (fun v v0 v1 y => (tb_add v0 v1 i0 (by omega)).mpr (.inl y))
    rcases (show s = am_or s (am_shl 1 i) ∨ s < am_or s (am_shl 1 i) by omega) with z | z
    · exfalso; rw [z] at k; exact k ((tb_add i0 (by omega) i0 (by omega)).mpr (.inr rfl))
    · exact z
  have kq := (qv_in (s := s) T i0 i1).mpr k
  have cd : cq (qv nv set st V (am_or s (am_shl 1 i))) nv = (m - 1 : Nat) := by
    rw [qv_del T i0 i1, cq_del vb.1 vb.2.1 kq, hm]
    have := cq_n0 vb.1 vb.2.1 kq
    omega
  have := R _ i lt (ok_or s (am_shl 1 i)) io i0 i1 ((tb_add i0 (by omega) i0 (by omega)).mpr (.inr rfl))
  rw [cd] at this
  exact this
theorem L_follow {D : Int → Int → Int} {nv set home st : Int} {V : Int → Int} {h0 : am_H} {R : Int → Int} {P : am_H → Prop} (nv0 : 0 ≤ nv) (nv1 : nv ≤ 12) (T : TV nv set home st V) (ho : 0 ≤ home ∧ home < nv) (hD : ∀ u v, 0 ≤ u → u < nv → 0 ≤ v → v < nv → 0 ≤ D u v ∧ D u v ≤ 1000000) (B : TH h0 D st V) (e40 : h0 40 = V) (Rs : TR h0 D nv set home st V 0) (H : ∀ h1, (∀ p, p ≠ 43 → h1 p = h0 p) → (∀ j, 0 ≤ j → j < st → h1 43 j = R j) → P h1) : ∀ x3 s at' r h, 0 ≤ x3 → x3 ≤ st → 0 ≤ at' → at' ≤ st → am_ok s → inn s st → (∀ p, p ≠ 43 → h p = h0 p) → cq (qv nv set st V s) nv = st - x3 → (∀ j, 0 ≤ j → j < x3 → h 43 j = r j) → (opr D home nv (st - x3).toNat (V at') (qv nv set st V s) x3 r).2 = R → am_x (am_cd 2) 153 (am_qv P) 0 9 [some (.inr (.inr 39)), some (.inl s), some (.inl at'), some (.inl x3)] [] h := by
  have hst := T.1
  refine upto st (fun x3 ih s at' r h a0 a1 t0 t1 so si f0 hm hr hR => ?_)
  have e39 := f0 39 (by decide)
  have B' : TH h D st V := ⟨by rw [e39]; exact B.1, fun a b p q r' s' => by rw [f0 41 (by decide)]; exact B.2 a b p q r' s'⟩
  refine g_Tour_follow_9 ?_
  rw [B'.1]
  refine ⟨fun hc => H h f0 (fun j j0 j1 => ?_), fun hc => ?_⟩
  · rw [show (st - x3).toNat = 0 by omega] at hR
    rw [← hR]; exact hr j j0 (by omega)
  · have sg := inn_le hst.1 (by omega) so si
    have R' : TR h D nv set home st V s := fun s' i l ok' in' i0 i1 k => by rw [f0 42 (by decide)]; exact Rs s' i (by omega) ok' in' i0 i1 k
    have hm' : cq (qv nv set st V s) nv = ((st - x3).toNat : Nat) := by rw [hm]; omega
    refine am_lifti (Nat.le_of_ble_eq_true rfl) (S_nextStop (met := x3) (r := r) nv0 nv1 T ho B' hD t0 t1 so si hm' (TR_42 nv0 T so si hm' R') (fun a y => ?_))
    rcases y with ⟨y1, y2⟩ | ⟨y1, y2, y3, y4, y5⟩
    · omega
    · refine ⟨fun _ => ⟨⟨by omega, by omega, by omega⟩, ?_⟩, fun c => by omega⟩
      have vb := T.2.1 a y1 y2
      have kq := (qv_in (s := s) T y1 y2).mpr y3
      have io : inn (am_or s (am_shl 1 a)) st := fun v v0 v1 k => by
        rcases (tb_add v0 v1 y1 (by omega)).mp k with z | z
        · exact si v v0 v1 z
        · omega
      refine ih hc _ a (updr r x3 (V a)) _ (by omega) (by omega) y1 (by omega) (ok_or _ _) io (fun p hp => (up_ne hp).trans (f0 p hp)) ?_ (fun j j0 j1 => ?_) ?_
      · rw [qv_del T y1 y2, cq_del vb.1 vb.2.1 kq, hm]; omega
      · rw [up_same]
        unfold updr
        by_cases k : j = x3
        · rw [if_pos k, if_pos k, f0 40 (by decide), e40]
        · rw [if_neg k, if_neg k]; exact hr j j0 (by omega)
      · rw [y5] at hR
        rw [← hR, show (st - (x3 + 1)).toNat = (st - x3).toNat - 1 by omega]
theorem L_plan26 {D : Int → Int → Int} {nv set home st x4 : Int} {V : Int → Int} {h0 : am_H} {P : am_H → Prop} (nv0 : 0 ≤ nv) (nv1 : nv ≤ 12) (T : TV nv set home st V) (ho : 0 ≤ home ∧ home < nv) (hD : ∀ u v, 0 ≤ u → u < nv → 0 ≤ v → v < nv → 0 ≤ D u v ∧ D u v ≤ 1000000) (B : TH h0 D st V) (so : am_ok x4) (si : inn x4 st) (s1 : x4 < 128) (Rs : TR h0 D nv set home st V x4) (H : ∀ h, (∀ p, p ≠ 42 → h p = h0 p) → TR h D nv set home st V (x4 + (-1)) → am_x (am_cd 5) 222 (am_qv P) 0 18 [some (.inr (.inr 39)), none, none, none, some (.inl (x4 + (-1))), none] [] h) : ∀ x5 h, 0 ≤ x5 → x5 ≤ st → (∀ p, p ≠ 42 → h p = h0 p) → TR h D nv set home st V x4 → (∀ i, 0 ≤ i → i < x5 → tb x4 i → h 42 (7 * x4 + i) = (opr D home nv (cq (qv nv set st V x4) nv).toNat (V i) (qv nv set st V x4) 0 (fun _ => 0)).1) → am_x (am_cd 5) 222 (am_qv P) 0 26 [some (.inr (.inr 39)), none, none, none, some (.inl x4), some (.inl x5)] [] h := by
  have hst := T.1
  refine upto st (fun x5 ih h a0 a1 f0 R1 a2 => ?_)
  have e39 := f0 39 (by decide)
  have B' : TH h D st V := ⟨by rw [e39]; exact B.1, fun a b p q r' s' => by rw [f0 41 (by decide)]; exact B.2 a b p q r' s'⟩
  have sg := inn_le hst.1 (by omega) so si
  refine g_Tour_plan_26 ?_
  rw [B'.1]
  refine ⟨fun hc => ⟨by omega, H h f0 (fun s' i l o' n' i0 i1 k => ?_)⟩, fun hc => ⟨fun c => ⟨by omega, ih hc h (by omega) (by omega) f0 R1 (fun i i0 i1 k => ?_)⟩, fun c => ⟨⟨by omega, by omega⟩, ?_⟩⟩⟩
  · rcases (show s' = x4 ∨ x4 < s' by omega) with z | z
    · subst z; exact a2 i i0 (by omega) k
    · exact R1 s' i z o' n' i0 i1 k
  · rcases (show i = x5 ∨ i < x5 by omega) with z | z
    · subst z; exact absurd k (tb_eq.mp c)
    · exact a2 i i0 z k
  · have c0 := (cq_bd (q := qv nv set st V x4) nv0).1
    have hm : cq (qv nv set st V x4) nv = ((cq (qv nv set st V x4) nv).toNat : Nat) := by omega
    refine am_lifti (Nat.le_of_ble_eq_true rfl) (S_restOf nv0 nv1 T ho B' hD a0 a1 so si hm (TR_42 nv0 T so si hm R1) ⟨⟨by omega, by omega⟩, ih hc _ (by omega) (by omega) (fun p hp => (up_ne hp).trans (f0 p hp)) (fun s' i l o' n' i0 i1 k => ?_) (fun i i0 i1 k => ?_)⟩)
    · have sg' := inn_le hst.1 (by omega) o' n'
      rw [up_same, if_neg (by omega)]; exact R1 s' i l o' n' i0 i1 k
    · rw [up_same]
      by_cases z : i = x5
      · rw [if_pos (by omega), z]
      · rw [if_neg (by omega)]; exact a2 i i0 (by omega) k
theorem L_plan18 {D : Int → Int → Int} {nv set home st : Int} {V : Int → Int} {h0 : am_H} {P : am_H → Prop} (nv0 : 0 ≤ nv) (nv1 : nv ≤ 12) (T : TV nv set home st V) (ho : 0 ≤ home ∧ home < nv) (hD : ∀ u v, 0 ≤ u → u < nv → 0 ≤ v → v < nv → 0 ≤ D u v ∧ D u v ≤ 1000000) (B : TH h0 D st V) (e40 : h0 40 = V) (hst2 : cq (qs set nv) nv = st) (H : ∀ h1, (∀ p, p ≠ 39 → p ≠ 42 → p ≠ 43 → h1 p = h0 p) → h1 39 6 = (opr D home nv st.toNat home (qs set nv) 0 (fun _ => 0)).1 → (∀ j, 0 ≤ j → j < st → h1 43 j = (opr D home nv st.toNat home (qs set nv) 0 (fun _ => 0)).2 j) → P h1) : ∀ x4 h, 0 ≤ x4 → x4 < am_shl 1 st → (∀ p, p ≠ 42 → h p = h0 p) → TR h D nv set home st V x4 → am_x (am_cd 5) 222 (am_qv P) 0 18 [some (.inr (.inr 39)), none, none, none, some (.inl x4), none] [] h := by
  have hst := T.1
  have s7 : am_shl 1 st ≤ 128 := by
    have := inn_le (s := am_shl 1 st - 1) (n := 7) (by omega) (by omega) (by have := shl_ok hst.1 (by omega); omega) (fun v v0 v1 k => by have := (tb_all v0 v1 hst.1 (by omega)).mp k; omega)
    have e : am_shl 1 7 = 128 := by decide
    omega
  refine downto 1 (fun x4 ih h a0 a1 f0 R1 => ?_)
  have e39 := f0 39 (by decide)
  have B' : TH h D st V := ⟨by rw [e39]; exact B.1, fun a b p q r' s' => by rw [f0 41 (by decide)]; exact B.2 a b p q r' s'⟩
  have si : inn x4 st := inn_lt a0 hst.1 (by omega) a1
  refine g_Tour_plan_18 ⟨fun hc => ?_, fun hc => L_plan26 (h0 := h) nv0 nv1 T ho hD B' (by omega) si (by omega) R1 (fun h1 f1 R2 => ih (by omega) h1 (by omega) (by omega) (fun p hp => (f1 p hp).trans (f0 p hp)) R2) 0 h (by omega) hst.1 (fun _ _ => rfl) R1 (fun i _ _ => by omega)⟩
  have x0 : x4 = 0 := by omega
  subst x0
  have hm : cq (qv nv set st V 0) nv = (st.toNat : Nat) := by rw [qv_0, hst2]; omega
  rw [B'.1]
  refine am_lifti (Nat.le_of_ble_eq_true rfl) (S_restOf nv0 nv1 T ho B' hD hst.1 (by omega) (by omega) si hm (TR_42 nv0 T (by omega) si hm R1) ?_)
  rw [T.2.2.2.2, qv_0]
  refine am_liftv (Nat.le_of_ble_eq_true rfl) (e_Tour_follow ?_)
  have u1 : am_up h 39 6 (opr D home nv st.toNat home (qs set nv) 0 (fun _ => 0)).1 39 1 = st := by rw [up_same, if_neg (by decide), B'.1]
  rw [u1]
  refine L_follow (D := D) (V := V) (h0 := am_up h 39 6 (opr D home nv st.toNat home (qs set nv) 0 (fun _ => 0)).1) (R := (opr D home nv st.toNat home (qs set nv) 0 (fun _ => 0)).2) nv0 nv1 T ho hD ⟨u1, fun a b p q r' s' => by rw [up_ne (by decide)]; exact B'.2 a b p q r' s'⟩ (by rw [up_ne (by decide), f0 40 (by decide), e40]) (fun s' i l o' n' i0 i1 k => by rw [up_ne (by decide)]; exact R1 s' i l o' n' i0 i1 k) (fun h1 f1 w1 => H h1 (fun p p1 p2 p3 => (f1 p p3).trans ((up_ne p1).trans (f0 p p2))) ?_ w1) 0 0 st (fun _ => 0) _ (by omega) hst.1 hst.1 (by omega) (by omega) si (fun _ _ => rfl) ?_ (fun j _ _ => by omega) ?_
  · rw [f1 39 (by decide), up_same, if_pos rfl]
  · rw [hm]; omega
  · rw [qv_0, T.2.2.2.2, show (st - 0).toNat = st.toNat by omega]
theorem cn_mono {s x : Int} (x0 : 0 ≤ x) : ∀ k : Nat, cn s x ≤ cn s (x + k)
  | 0 => by rw [show x + ((0 : Nat) : Int) = x by omega]; exact Int.le_refl _
  | k + 1 => by
    have ih := cn_mono (s := s) x0 k
    unfold cn at *
    rw [show x + ((k + 1 : Nat) : Int) = x + k + 1 by omega, su_1 (by omega)]
    by_cases y : tb s (x + k)
    · rw [if_pos y]; omega
    · rw [if_neg y]; omega
theorem cn_s {s x : Int} (x0 : 0 ≤ x) : cn s (x + 1) = cn s x + (if tb s x then 1 else 0) := by unfold cn; rw [su_1 x0]
theorem cn_gt {s x u n : Int} (x0 : 0 ≤ x) (u0 : x ≤ u) (u1 : u < n) (k : tb s u) : cn s x + 1 ≤ cn s n := by
  have a := cn_mono (s := s) x0 (u - x).toNat
  rw [show x + ((u - x).toNat : Int) = u by omega] at a
  have b := cn_mono (s := s) (x := u + 1) (by omega) (n - (u + 1)).toNat
  rw [show u + 1 + ((n - (u + 1)).toNat : Int) = n by omega] at b
  have c := cn_s (s := s) (x := u) (by omega)
  rw [if_pos k] at c
  omega
theorem L_collect99 {N : Int → Int} {D : Int → Int → Int} {st x3 : Int} {V : Int → Int} {h0 : am_H} {P : am_H → Prop} (st0 : 0 ≤ st) (st1 : st ≤ 7) (hN : N 0 ≤ 12) (e39 : h0 39 1 = st) (e40 : h0 40 = V) (Vb : ∀ i, 0 ≤ i → i ≤ st → 0 ≤ V i ∧ V i < N 0) (x30 : 0 ≤ x3) (x31 : x3 ≤ st) (e6 : ∀ b, 0 ≤ b → b < N 0 → h0 6 b = D (V x3) b) (H : ∀ h, (∀ p, p ≠ 41 → h p = h0 p) → (∀ j, (j < 8 * x3 ∨ 8 * x3 + 8 ≤ j) → h 41 j = h0 41 j) → (∀ b, 0 ≤ b → b ≤ st → h 41 (8 * x3 + b) = D (V x3) (V b)) → am_x (am_cd 4) 207 (am_qv P) 0 73 [some (.inr (.inr 39)), none, none, some (.inl (x3 + 1)), none] [] h) : ∀ x4 h, 0 ≤ x4 → x4 ≤ st + 1 → (∀ p, p ≠ 41 → h p = h0 p) → (∀ j, (j < 8 * x3 ∨ 8 * x3 + 8 ≤ j) → h 41 j = h0 41 j) → (∀ b, 0 ≤ b → b < x4 → h 41 (8 * x3 + b) = D (V x3) (V b)) → am_x (am_cd 4) 207 (am_qv P) 0 99 [some (.inr (.inr 39)), none, none, some (.inl x3), some (.inl x4)] [] h := by
  refine upto (st + 1) (fun x4 ih h a0 a1 a2 a3 a4 => ?_)
  refine g_Tour_collect_99 ?_
  rw [a2 39 (by decide), e39, a2 40 (by decide), e40, a2 6 (by decide)]
  refine ⟨fun hc => ⟨by omega, H h a2 a3 (fun b b0 b1 => a4 b b0 (by omega))⟩, fun hc => ⟨⟨by omega, by omega, by omega⟩, ?_⟩⟩
  have vb := Vb x4 a0 hc
  refine ⟨by omega, ⟨by omega, by omega⟩, ih (by omega) _ (by omega) (by omega) (fun p hp => (up_ne hp).trans (a2 p hp)) (fun j hj => ?_) (fun b b0 b1 => ?_)⟩
  · rw [up_same, if_neg (by omega)]; exact a3 j hj
  · rw [up_same]
    by_cases q : b = x4
    · rw [if_pos (by omega), e6 _ vb.1 vb.2, q]
    · rw [if_neg (by omega)]; exact a4 b b0 (by omega)
theorem L_collect73 {N : Int → Int} {D : Int → Int → Int} {st : Int} {V : Int → Int} {h0 : am_H} {P : am_H → Prop} (O : OL N) (W : DW N D) (R : LR h0 N) (st0 : 0 ≤ st) (st1 : st ≤ 7) (e39 : h0 39 1 = st) (e40 : h0 40 = V) (Vb : ∀ i, 0 ≤ i → i ≤ st → 0 ≤ V i ∧ V i < N 0) (H : ∀ h, (∀ p, p ≠ 6 → p ≠ 41 → h p = h0 p) → (∀ a b, 0 ≤ a → a ≤ st → 0 ≤ b → b ≤ st → h 41 (8 * a + b) = D (V a) (V b)) → P h) : ∀ x3 h, 0 ≤ x3 → x3 ≤ st + 1 → (∀ p, p ≠ 6 → p ≠ 41 → h p = h0 p) → (∀ a b, 0 ≤ a → a < x3 → 0 ≤ b → b ≤ st → h 41 (8 * a + b) = D (V a) (V b)) → am_x (am_cd 4) 207 (am_qv P) 0 73 [some (.inr (.inr 39)), none, none, some (.inl x3), none] [] h := by
  have hN := O.1
  refine upto (st + 1) (fun x3 ih h a0 a1 a2 a3 => ?_)
  refine g_Tour_collect_73 ?_
  rw [a2 39 (by decide) (by decide), e39, a2 40 (by decide) (by decide), e40]
  refine ⟨fun hc => H h a2 (fun a b p q r s => a3 a b p (by omega) r s), fun hc => ⟨by omega, ?_⟩⟩
  have vb := Vb x3 a0 hc
  have R' : LR h N := LR_of (a2 1 (by decide) (by decide)) (a2 2 (by decide) (by decide)) (a2 3 (by decide) (by decide)) (a2 4 (by decide) (by decide)) (a2 5 (by decide) (by decide)) R
  refine am_liftv (Nat.le_of_ble_eq_true rfl) (S_walkFrom O R' (fun h1 f1 w1 => ?_))
  refine L_collect99 (h0 := h1) (D := D) (V := V) st0 st1 hN.2 (by rw [f1 39 (by decide), a2 39 (by decide) (by decide), e39]) (by rw [f1 40 (by decide), a2 40 (by decide) (by decide), e40]) Vb a0 hc (fun b b0 b1 => isW_eq (W (V x3) vb.1 vb.2) w1 b0 b1) (fun h2 f2 g2 w2 => ih (by omega) h2 (by omega) (by omega) (fun p p1 p2 => (f2 p p2).trans ((f1 p p1).trans (a2 p p1 p2))) (fun a b p q r s => ?_)) 0 h1 (by omega) (by omega) (fun _ _ => rfl) (fun _ _ => rfl) (fun b _ _ => by omega)
  by_cases z : a = x3
  · subst z; exact w2 b r s
  · rw [g2 _ (by omega), f1 41 (by decide)]; exact a3 a b p (by omega) r s
theorem L_collect7 {N : Int → Int} {D : Int → Int → Int} {home set : Int} {h0 : am_H} {P : am_H → Prop} (O : OL N) (W : DW N D) (R : LR h0 N) (ho0 : 0 ≤ home) (ho1 : home < N 0) (c7 : cn set 12 ≤ 7) (is : inn set (N 0)) (H : ∀ h, (∀ p, p ≠ 6 → p ≠ 39 → p ≠ 40 → p ≠ 41 → h p = h0 p) → TV (N 0) set home (cn set 12) (h 40) → TH h D (cn set 12) (h 40) → P h) : ∀ x3 h, 0 ≤ x3 → x3 ≤ N 0 → (∀ p, p ≠ 39 → p ≠ 40 → h p = h0 p) → h 39 1 = cn set x3 → (∀ i, 0 ≤ i → i < cn set x3 → 0 ≤ h 40 i ∧ h 40 i < x3 ∧ tb set (h 40 i)) → (∀ i j, 0 ≤ i → i < j → j < cn set x3 → h 40 i < h 40 j) → (∀ u, 0 ≤ u → u < x3 → tb set u → ∃ i, 0 ≤ i ∧ i < cn set x3 ∧ h 40 i = u) → am_x (am_cd 4) 207 (am_qv P) 0 7 [some (.inr (.inr 39)), some (.inl home), some (.inl set), some (.inl x3), none] [] h := by
  have hN := O.1
  refine upto (N 0) (fun x3 ih h a0 a1 a2 a3 a4 a5 a6 => ?_)
  have R' : LR h N := LR_of (a2 1 (by decide) (by decide)) (a2 2 (by decide) (by decide)) (a2 3 (by decide) (by decide)) (a2 4 (by decide) (by decide)) (a2 5 (by decide) (by decide)) R
  have cm := cn_mono (s := set) a0 (12 - x3).toNat
  rw [show x3 + ((12 - x3).toNat : Int) = 12 by omega] at cm
  have c0 : 0 ≤ cn set x3 := by have := cn_mono (s := set) (x := 0) (by omega) x3.toNat; rw [show (0 : Int) + (x3.toNat : Int) = x3 by omega] at this; have z : cn set 0 = 0 := by unfold cn; exact su_0 (by omega)
                                omega
  have fin : (∀ u, x3 ≤ u → u < N 0 → ¬ tb set u) → am_x (am_cd 4) 207 (am_qv P) 0 73 [some (.inr (.inr 39)), none, none, some (.inl 0), none] [] (am_up h 40 (cn set x3) home) := by
    intro no
    have ce : cn set x3 = cn set 12 := by
      rcases (show cn set x3 = cn set 12 ∨ cn set x3 < cn set 12 by omega) with z | z
      · exact z
      · exfalso
        have : ∀ k : Nat, x3 + k ≤ 12 → cn set (x3 + k) = cn set x3 := by
          intro k
          induction k with
          | zero => intro _; rw [show x3 + ((0 : Nat) : Int) = x3 by omega]
          | succ k ih2 =>
            intro hk
            rw [show x3 + ((k + 1 : Nat) : Int) = x3 + k + 1 by omega, cn_s (by omega), ih2 (by omega), if_neg (fun y => no (x3 + k) (by omega) (is _ (by omega) (by omega) y) y)]
            omega
        have := this (12 - x3).toNat (by omega)
        rw [show x3 + ((12 - x3).toNat : Int) = 12 by omega] at this
        omega
    generalize hst : cn set 12 = st at *
    rw [ce] at a3 a4 a5 a6 ⊢
    have u40 : ∀ i, i < st → am_up h 40 st home 40 i = h 40 i := fun i i1 => by rw [up_same, if_neg (by omega)]
    have us : am_up h 40 st home 40 st = home := by rw [up_same, if_pos rfl]
    have R2 : LR (am_up h 40 st home) N := LR_of (up_ne (by decide)) (up_ne (by decide)) (up_ne (by decide)) (up_ne (by decide)) (up_ne (by decide)) R'
    refine L_collect73 (D := D) (st := st) (V := am_up h 40 st home 40) (h0 := am_up h 40 st home) O W R2 (by omega) c7 (by rw [up_ne (by decide)]; exact a3) rfl (fun i i0 i1 => ?_) (fun h1 f1 w1 => ?_) 0 _ (by omega) (by omega) (fun _ _ _ => rfl) (fun a b _ _ _ _ => by omega)
    · rcases (show i = st ∨ i < st by omega) with z | z
      · rw [z, us]; exact ⟨ho0, ho1⟩
      · rw [u40 i z]; have := a4 i i0 z; omega
    · have e40 : h1 40 = am_up h 40 st home 40 := f1 40 (by decide) (by decide)
      refine H h1 (fun p p1 p2 p3 p4 => (f1 p p1 p4).trans ((up_ne p3).trans (a2 p p2 p3))) ?_ ?_
      · rw [e40]
        refine ⟨⟨by omega, c7⟩, fun i i0 i1 => ?_, fun i j i0 i1 i2 => ?_, fun u uq => ?_, us⟩
        · rw [u40 i i1]; have := a4 i i0 i1; exact ⟨this.1, by omega, this.2.2⟩
        · rw [u40 i (by omega), u40 j i2]; exact a5 i j i0 i1 i2
        · have ux : u < x3 := by
            rcases Int.lt_or_le u x3 with z | z
            · exact z
            · exact absurd uq.2.2 (no u z uq.2.1)
          obtain ⟨i, i0, i1, e⟩ := a6 u uq.1 ux uq.2.2
          exact ⟨i, i0, i1, by rw [u40 i i1]; exact e⟩
      · rw [e40]
        exact ⟨by rw [f1 39 (by decide) (by decide), up_ne (by decide)]; exact a3, w1⟩
  refine g_Tour_collect_7 ?_
  rw [R'.1, a3]
  refine ⟨fun hc => ⟨by omega, fin (fun u u0 u1 => by omega)⟩, fun hc => ⟨fun c => ⟨by omega, fin (fun u u0 u1 k => ?_)⟩, fun c => ⟨fun c2 => ⟨by omega, ?_⟩, fun c2 => ⟨⟨by omega, by omega, by omega⟩, ?_⟩⟩⟩⟩
  · have := cn_gt a0 u0 (show u < 12 by omega) k; omega
  · have nt := tb_eq.mp c2
    have ce : cn set (x3 + 1) = cn set x3 := by rw [cn_s a0, if_neg nt]; omega
    refine ih hc h (by omega) (by omega) a2 (by rw [ce]; exact a3) (fun i i0 i1 => ?_) (fun i j i0 i1 i2 => a5 i j i0 i1 (by omega)) (fun u u0 u1 k => ?_)
    · have := a4 i i0 (by omega); exact ⟨this.1, by omega, this.2.2⟩
    · rw [ce]
      refine a6 u u0 ?_ k
      rcases (show u = x3 ∨ u < x3 by omega) with z | z
      · subst z; exact absurd k nt
      · exact z
  · have ce : cn set (x3 + 1) = cn set x3 + 1 := by rw [cn_s a0, if_pos c2]
    have u40 : ∀ i, am_up (am_up h 40 (cn set x3) x3) 39 1 (cn set x3 + 1) 40 i = if i = cn set x3 then x3 else h 40 i := fun i => by rw [up_ne (by decide), up_same]
    refine ih hc _ (by omega) (by omega) (fun p p1 p2 => by rw [up_ne p1, up_ne p2]; exact a2 p p1 p2) (by rw [up_same, if_pos rfl, ce]) (fun i i0 i1 => ?_) (fun i j i0 i1 i2 => ?_) (fun u u0 u1 k => ?_)
    · rw [u40 i]
      by_cases z : i = cn set x3
      · rw [if_pos z]; exact ⟨a0, by omega, c2⟩
      · rw [if_neg z]; have := a4 i i0 (by omega); exact ⟨this.1, by omega, this.2.2⟩
    · rw [u40 i, u40 j, if_neg (by omega)]
      by_cases z : j = cn set x3
      · rw [if_pos z]; exact (a4 i i0 (by omega)).2.1
      · rw [if_neg z]; exact a5 i j i0 i1 (by omega)
    · rcases (show u = x3 ∨ u < x3 by omega) with z | z
      · exact ⟨cn set x3, c0, by omega, by rw [u40, if_pos rfl, z]⟩
      · obtain ⟨i, i0, i1, e⟩ := a6 u u0 z k
        exact ⟨i, i0, by omega, by rw [u40, if_neg (by omega)]; exact e⟩
theorem S_plan {N : Int → Int} {D : Int → Int → Int} {home set : Int} {h : am_H} {P : am_H → Prop} (O : OL N) (W : DW N D) (R : LR h N) (ho0 : 0 ≤ home) (ho1 : home < N 0) (c7 : cn set 12 ≤ 7) (is : inn set (N 0)) (H : ∀ h1, (∀ p, p ≠ 6 → p ≠ 39 → p ≠ 40 → p ≠ 41 → p ≠ 42 → p ≠ 43 → h1 p = h p) → h1 39 6 = (opr D home (N 0) (cn set 12).toNat home (qs set (N 0)) 0 (fun _ => 0)).1 → (∀ j, 0 ≤ j → j < cn set 12 → h1 43 j = (opr D home (N 0) (cn set 12).toNat home (qs set (N 0)) 0 (fun _ => 0)).2 j) → P h1) : ∃ h_, am_cd 6 222 [.inr (.inr 39), .inl home, .inl set] h none h_ ∧ P h_ := by
  have hN := O.1
  have cb := cn_bd set
  have c00 : cn set 0 = 0 := by unfold cn; exact su_0 (by omega)
  have hD : ∀ u v, 0 ≤ u → u < N 0 → 0 ≤ v → v < N 0 → 0 ≤ D u v ∧ D u v ≤ 1000000 := fun u v u0 u1 v0 v1 => by have := D_bd W u0 u1 v0 v1; omega
  refine e_Tour_plan (am_liftv (Nat.le_of_ble_eq_true rfl) (e_Tour_collect ?_))
  refine L_collect7 (N := N) (D := D) (h0 := am_up h 39 1 0) O W (LR_of (up_ne (by decide)) (up_ne (by decide)) (up_ne (by decide)) (up_ne (by decide)) (up_ne (by decide)) R) ho0 ho1 c7 is (fun h1 f1 T B => ?_) 0 _ (by omega) hN.1 (fun _ _ _ => rfl) (by rw [up_same, if_pos rfl, c00]) (fun i _ _ => by omega) (fun i j _ _ _ => by omega) (fun u _ _ => by omega)
  have sh := shl_ok cb.1 (by omega)
  rw [B.1]
  refine ⟨by omega, L_plan18 (D := D) (h0 := h1) hN.1 hN.2 T ⟨ho0, ho1⟩ hD B rfl (cn_cq hN.1 hN.2 is) (fun h2 f2 w2 w3 => H h2 (fun p p1 p2 p3 p4 p5 p6 => ?_) w2 w3) _ h1 (by omega) (by omega) (fun _ _ => rfl) (fun s' i l o' n' i0 i1 k => ?_)⟩
  · rw [f2 p p2 p5 p6, f1 p p1 p2 p3 p4, up_ne p2]
  · have := inn_le cb.1 (by omega) o' n'; omega
theorem S_joins {N : Int → Int} {D : Int → Int → Int} {home set : Int} {h : am_H} {P : Int → am_H → Prop} (O : OL N) (W : DW N D) (R : LR h N) (ho0 : 0 ≤ home) (ho1 : home < N 0) (H : ∀ h1 a, (∀ p, p ≠ 6 → h1 p = h p) → ((a = 1 ∧ ∀ v, 0 ≤ v → v < N 0 → tb set v → D home v < 1000000) ∨ (a = 0 ∧ ∃ v, 0 ≤ v ∧ v < N 0 ∧ tb set v ∧ 1000000 ≤ D home v)) → P a h1) : ∃ a_ h_, am_cd 5 205 [.inr (.inr 1), .inl home, .inl set] h (some (.inl a_)) h_ ∧ P a_ h_ := by
  have hN := O.1
  refine e_Land_joins (am_liftv (Nat.le_of_ble_eq_true rfl) (S_walkFrom O R (fun h1 f1 w1 => ?_)))
  have e6 : ∀ b, 0 ≤ b → b < N 0 → h1 6 b = D home b := fun b b0 b1 => isW_eq (W home ho0 ho1) w1 b0 b1
  have key : ∀ x3, 0 ≤ x3 → x3 ≤ N 0 → (∀ v, 0 ≤ v → v < x3 → tb set v → D home v < 1000000) → am_x (am_cd 4) 205 (am_qi P) 0 9 [some (.inr (.inr 1)), none, some (.inl set), some (.inl x3)] [] h1 := by
    refine upto (N 0) (fun x3 ih a0 a1 a2 => ?_)
    refine g_Land_joins_9 ?_
    rw [f1 1 (by decide), R.1]
    refine ⟨fun hc => H h1 1 f1 (.inl ⟨rfl, fun v v0 v1 => a2 v v0 (by omega)⟩), fun hc => ⟨fun c => ⟨by omega, ih hc (by omega) (by omega) (fun v v0 v1 k => ?_)⟩, fun c => ⟨by omega, ?_⟩⟩⟩
    · rcases (show v = x3 ∨ v < x3 by omega) with z | z
      · subst z; exact absurd k (tb_eq.mp c)
      · exact a2 v v0 z k
    · rw [e6 x3 a0 hc]
      refine ⟨fun c2 => ⟨by omega, ih hc (by omega) (by omega) (fun v v0 v1 k => ?_)⟩, fun c2 => H h1 0 f1 (.inr ⟨rfl, x3, a0, hc, c, c2⟩)⟩
      rcases (show v = x3 ∨ v < x3 by omega) with z | z
      · subst z; exact c2
      · exact a2 v v0 z k
  exact key 0 (by omega) hN.1 (fun v _ _ => by omega)
theorem S_round {N : Int → Int} {D : Int → Int → Int} {home set what : Int} {h : am_H} {P : Int → am_H → Prop} (O : OL N) (W : DW N D) (R : LR h N) (ok : am_ok set) (hf : am_ok (h 0 13 + 1)) (H : ∀ h1, (∀ p, p ≠ 0 → p ≠ 6 → p ≠ 39 → p ≠ 40 → p ≠ 41 → p ≠ 42 → p ≠ 43 → h1 p = h p) → (∀ j, j ≠ 13 → h1 0 j = h 0 j) → h1 0 13 = h 0 13 + (if rnd N D home set what < -99999 then 1 else 0) → P (rnd N D home set what) h1) : ∃ a_ h_, am_cd 7 230 [.inr (.inr 0), .inl home, .inl set, .inl what] h (some (.inl a_)) h_ ∧ P a_ h_ := by
  have hN := O.1
  have er : ∀ c h', (∀ p, p ≠ 6 → h' p = h p) → rnd N D home set what = c → c < -99999 → am_ok (h' 0 13 + 1) ∧ P c (am_up h' 0 13 (h' 0 13 + 1)) := by
    intro c h' f e l
    rw [f 0 (by decide)]
    refine ⟨hf, ?_⟩
    rw [← e]
    refine H _ (fun p p1 p2 _ _ _ _ _ => by rw [up_ne p1, f p p2]) (fun j j0 => by rw [up_same, if_neg j0, f 0 (by decide)]) ?_
    rw [up_same, if_pos rfl, e, if_pos l]
  have bad : ¬ (0 ≤ home ∧ home < N 0 ∧ inn set (N 0) ∧ ¬ tb set home ∧ -1 ≤ what) → am_ok (h 0 13 + 1) ∧ P (-100001) (am_up h 0 13 (h 0 13 + 1)) := fun k => er _ h (fun _ _ => rfl) (by unfold rnd; rw [if_pos k]) (by decide)
  have sh := shl_ok hN.1 hN.2
  refine e_At_round ?_
  rw [R.1]
  refine ⟨fun c => ⟨by omega, fun c2 => ⟨fun c3 => bad (fun k => k.2.2.2.1 c3), fun c3 => ⟨fun c4 => ?_, fun c4 => bad (fun k => by omega)⟩⟩, fun c2 => bad (fun k => c2 ((hasAll_iff hN.1 hN.2).mpr k.2.2.1))⟩, fun c => bad (fun k => c ⟨k.1, k.2.1⟩)⟩
  have is := (hasAll_iff hN.1 hN.2).mp c2
  have nt := tb_eq.mp c3
  have rg := inn_rng hN.2 ok is
  have cb := cn_bd set
  have r0 : rnd N D home set what = if 7 < cn set 12 then -100003 else @ite _ (∃ v, 0 ≤ v ∧ v < N 0 ∧ tb set v ∧ 1000000 ≤ D home v) (Classical.propDecidable _) (-100008) (if cn set 12 ≤ what then -100006 else if what < 0 then (opr D home (N 0) (cn set 12).toNat home (qs set (N 0)) 0 (fun _ => 0)).1 else (opr D home (N 0) (cn set 12).toNat home (qs set (N 0)) 0 (fun _ => 0)).2 what) := by
    unfold rnd
    rw [if_neg (fun y => y ⟨c.1, c.2, is, nt, c4⟩)]
  refine am_lifti (Nat.le_of_ble_eq_true rfl) (S_bitCount rg.1 rg.2 ⟨fun c5 => ?_, fun c5 => er _ h (fun _ _ => rfl) (by rw [r0, if_pos c5]) (by decide)⟩)
  rw [if_neg (by omega)] at r0
  refine am_lifti (Nat.le_of_ble_eq_true rfl) (S_joins O W R c.1 c.2 (fun h1 a f1 y => ?_))
  rcases y with ⟨y1, y2⟩ | ⟨y1, y2⟩
  · refine ⟨fun _ => ?_, fun z => by omega⟩
    rw [if_neg (fun z => by obtain ⟨v, v0, v1, v2, v3⟩ := z; have := y2 v v0 v1 v2; omega)] at r0
    refine am_lifti (Nat.le_of_ble_eq_true rfl) (S_bitCount rg.1 rg.2 ⟨fun c6 => ?_, fun c6 => er _ h1 f1 (by rw [r0, if_pos c6]) (by decide)⟩)
    rw [if_neg (by omega)] at r0
    have R1 : LR h1 N := LR_of (f1 1 (by decide)) (f1 2 (by decide)) (f1 3 (by decide)) (f1 4 (by decide)) (f1 5 (by decide)) R
    refine am_liftv (Nat.le_of_ble_eq_true rfl) (S_plan O W R1 c.1 c.2 c5 is (fun h2 f2 w2 w3 => ?_))
    have hD : ∀ u v, 0 ≤ u → u < N 0 → 0 ≤ v → v < N 0 → 0 ≤ D u v ∧ D u v ≤ 1000000 := fun u v u0 u1 v0 v1 => by have := D_bd W u0 u1 v0 v1; omega
    have cqe := cn_cq hN.1 hN.2 is
    have e0 : h2 0 = h 0 := (f2 0 (by decide) (by decide) (by decide) (by decide) (by decide) (by decide)).trans (f1 0 (by decide))
    have fr : ∀ p, p ≠ 0 → p ≠ 6 → p ≠ 39 → p ≠ 40 → p ≠ 41 → p ≠ 42 → p ≠ 43 → h2 p = h p := fun p _ p1 p2 p3 p4 p5 p6 => (f2 p p1 p2 p3 p4 p5 p6).trans (f1 p p1)
    refine ⟨fun c7 => ⟨by omega, ?_⟩, fun c7 => ?_⟩
    · rw [if_neg (by omega)] at r0
      have z := opr_rg (fun u v u0 u1 v0 v1 => (hD u v u0 u1 v0 v1).2) c.1 c.2 (cn set 12).toNat home (qs set (N 0)) 0 (fun _ => 0) c.1 c.2 (fun u y => ⟨y.1, y.2.1⟩) (by rw [cqe]; omega) (by omega) (fun i _ _ => Int.le_refl _) (Int.le_refl _) what c7 (by omega)
      rw [w3 what c7 c6, ← r0]
      exact H h2 fr (fun j _ => by rw [e0]) (by rw [e0, r0, if_neg (by omega)]; omega)
    · rw [if_pos c7] at r0
      have z := opr_0 (fun u v u0 u1 v0 v1 => (hD u v u0 u1 v0 v1).1) c.1 c.2 (cn set 12).toNat home (qs set (N 0)) 0 (fun _ => 0) c.1 c.2 (fun u y => y.2.1)
      rw [w2, ← r0]
      exact H h2 fr (fun j _ => by rw [e0]) (by rw [e0, r0, if_neg (by omega)]; omega)
  · refine ⟨fun z => absurd y1 z, fun _ => ?_⟩
    rw [if_pos y2] at r0
    exact er _ h1 f1 r0 (by decide)
theorem DW_ex {N : Int → Int} {h : am_H} (O : OL N) (R : LR h N) : ∃ D, DW N D := by
  have : ∀ a, ∃ W, isW N (am_shl 1 a) W := fun a => by
    obtain ⟨h1, _, k⟩ := S_walkFrom (s := am_shl 1 a) (P := fun h1 => isW N (am_shl 1 a) (h1 6)) O R (fun h1 _ w => w)
    exact ⟨_, k⟩
  exact ⟨fun a => Classical.choose (this a), fun a _ _ => Classical.choose_spec (this a)⟩
/-- the answer of walk -/
noncomputable def wlk (N : Int → Int) (D : Int → Int → Int) (a b : Int) : Int := if 0 ≤ a ∧ a < N 0 ∧ 0 ≤ b ∧ b < N 0 then (if D a b < 1000000 then D a b else -100008) else -100001
theorem S_walk {N : Int → Int} {D : Int → Int → Int} {a b : Int} {h : am_H} {P : Int → am_H → Prop} (O : OL N) (W : DW N D) (R : LR h N) (hf : am_ok (h 0 13 + 1)) (H : ∀ h1, (∀ p, p ≠ 0 → p ≠ 6 → h1 p = h p) → (∀ j, j ≠ 13 → h1 0 j = h 0 j) → h1 0 13 = h 0 13 + (if wlk N D a b < -99999 then 1 else 0) → P (wlk N D a b) h1) : ∃ a_ h_, am_cd 5 208 [.inr (.inr 0), .inl a, .inl b] h (some (.inl a_)) h_ ∧ P a_ h_ := by
  have hN := O.1
  have er : ∀ c h', (∀ p, p ≠ 6 → h' p = h p) → wlk N D a b = c → c < -99999 → am_ok (h' 0 13 + 1) ∧ P c (am_up h' 0 13 (h' 0 13 + 1)) := by
    intro c h' f e l
    rw [f 0 (by decide)]
    refine ⟨hf, ?_⟩
    rw [← e]
    refine H _ (fun p p1 p2 => by rw [up_ne p1, f p p2]) (fun j j0 => by rw [up_same, if_neg j0, f 0 (by decide)]) ?_
    rw [up_same, if_pos rfl, e, if_pos l]
  refine e_At_walk ?_
  rw [R.1]
  refine ⟨fun c => ⟨fun c2 => ?_, fun c2 => er _ h (fun _ _ => rfl) (by unfold wlk; rw [if_neg (fun k => c2 ⟨k.2.2.1, k.2.2.2⟩)]) (by decide)⟩, fun c => er _ h (fun _ _ => rfl) (by unfold wlk; rw [if_neg (fun k => c ⟨k.1, k.2.1⟩)]) (by decide)⟩
  refine am_liftv (Nat.le_of_ble_eq_true rfl) (S_walkFrom O R (fun h1 f1 w1 => ?_))
  have e := isW_eq (W a c.1 c.2) w1 c2.1 c2.2
  have bd := D_bd W c.1 c.2 c2.1 c2.2
  have r0 : wlk N D a b = if D a b < 1000000 then D a b else -100008 := by unfold wlk; rw [if_pos ⟨c.1, c.2, c2.1, c2.2⟩]
  rw [e]
  refine ⟨by omega, fun c3 => ?_, fun c3 => er _ h1 f1 (by rw [r0, if_neg (by omega)]) (by decide)⟩
  rw [if_pos c3] at r0
  rw [← r0]
  exact H h1 (fun p _ p2 => f1 p p2) (fun j _ => by rw [f1 0 (by decide)]) (by rw [f1 0 (by decide), r0, if_neg (by omega)]; omega)
theorem S_Mwalk {N : Int → Int} {D : Int → Int → Int} {a b : Int} {h : am_H} {P : Int → am_H → Prop} (O : OL N) (W : DW N D) (eN : h 57 = N) (hf : am_ok (h 56 3 + 1)) (H : ∀ h1, (∀ p, p ≠ 56 → p ≠ 59 → h1 p = h p) → (∀ j, j ≠ 3 → h1 56 j = h 56 j) → h1 56 3 = h 56 3 + (if wlk N D a b < -99999 then 1 else 0) → P (wlk N D a b) h1) : ∃ a_ h_, am_cd 3 162 [.inr (.inr 56), .inl a, .inl b] h (some (.inl a_)) h_ ∧ P a_ h_ := by
  have hN := O.1
  have er : ∀ c h', (∀ p, p ≠ 59 → h' p = h p) → wlk N D a b = c → c < -99999 → am_ok (h' 56 3 + 1) ∧ P c (am_up h' 56 3 (h' 56 3 + 1)) := by
    intro c h' f e l
    rw [f 56 (by decide)]
    refine ⟨hf, ?_⟩
    rw [← e]
    refine H _ (fun p p1 p2 => by rw [up_ne p1, f p p2]) (fun j j0 => by rw [up_same, if_neg j0, f 56 (by decide)]) ?_
    rw [up_same, if_pos rfl, e, if_pos l]
  refine e_Mo_walk ?_
  rw [eN]
  refine ⟨by omega, fun c => ⟨fun c2 => ?_, fun c2 => er _ h (fun _ _ => rfl) (by unfold wlk; rw [if_neg (fun k => c2 ⟨k.2.2.1, by omega⟩)]) (by decide)⟩, fun c => er _ h (fun _ _ => rfl) (by unfold wlk; rw [if_neg (fun k => c ⟨k.1, by omega⟩)]) (by decide)⟩
  refine am_liftv (Nat.le_of_ble_eq_true rfl) (S_MfindWalks O c.1 (by omega) eN (fun h1 f1 w1 w2 => ?_))
  have e := isW_eq (W a c.1 (by omega)) w1 c2.1 (by omega)
  have bd := D_bd W c.1 (show a < N 0 by omega) c2.1 (show b < N 0 by omega)
  have r0 : wlk N D a b = if D a b < 1000000 then D a b else -100008 := by unfold wlk; rw [if_pos ⟨c.1, by omega, c2.1, by omega⟩]
  have bd2 := w2 b c2.1 (by omega)
  unfold Wof at e
  refine ⟨by omega, fun c3 => ?_, fun c3 => er _ h1 f1 ?_ (by decide)⟩
  · rw [if_neg (by omega)] at e
    rw [if_pos (by omega)] at r0
    rw [e, ← r0]
    exact H h1 (fun p _ p2 => f1 p p2) (fun j _ => by rw [f1 56 (by decide)]) (by rw [f1 56 (by decide), r0, if_neg (by omega)]; omega)
  · rw [if_pos c3] at e
    rw [r0, if_neg (by omega)]
