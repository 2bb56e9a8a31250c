/-! what a row becomes -/
def bcm (f t l r n : Int) (x : Int → Int) (i : Int) : Int := if x i = f ∧ (l = 27 ∨ l = (if i = 0 then 26 else x (i - 1))) ∧ (r = 27 ∨ r = (if i + 1 < n then x (i + 1) else 26)) then t else x i
def gk (b : Int → Int) : Nat → Int
  | 0 => 0
  | i + 1 => if b i = -1 then gk b i else gk b i + 1
def gy (b : Int → Int) : Nat → Int → Int
  | 0 => fun _ => 0
  | i + 1 => fun j => if b i ≠ -1 ∧ j = gk b i then b i else gy b i j
theorem gk_s {b : Int → Int} {x : Int} (h : 0 ≤ x) : gk b (x + 1).toNat = if b x = -1 then gk b x.toNat else gk b x.toNat + 1 := by
  rw [show (x + 1).toNat = x.toNat + 1 by omega]
  show (if b (x.toNat : Int) = -1 then gk b x.toNat else gk b x.toNat + 1) = _
  rw [show ((x.toNat : Nat) : Int) = x by omega]
theorem gy_s {b : Int → Int} {x j : Int} (h : 0 ≤ x) : gy b (x + 1).toNat j = if b x ≠ -1 ∧ j = gk b x.toNat then b x else gy b x.toNat j := by
  rw [show (x + 1).toNat = x.toNat + 1 by omega]
  show (if b (x.toNat : Int) ≠ -1 ∧ j = gk b x.toNat then b (x.toNat : Int) else gy b x.toNat j) = _
  rw [show ((x.toNat : Nat) : Int) = x by omega]
theorem gk_bd (b : Int → Int) : ∀ n : Nat, 0 ≤ gk b n ∧ gk b n ≤ n
  | 0 => by show (0 : Int) ≤ 0 ∧ (0 : Int) ≤ 0; omega
  | n + 1 => by
    have := gk_bd b n
    show 0 ≤ (if b n = -1 then gk b n else gk b n + 1) ∧ (if b n = -1 then gk b n else gk b n + 1) ≤ ((n + 1 : Nat) : Int)
    split <;> omega
theorem gk_cg {b c : Int → Int} : ∀ n : Nat, (∀ i : Int, 0 ≤ i → i < n → b i = c i) → gk b n = gk c n
  | 0, _ => rfl
  | n + 1, h => by
    show (if b n = -1 then gk b n else gk b n + 1) = (if c n = -1 then gk c n else gk c n + 1)
    rw [gk_cg n (fun i i0 i1 => h i i0 (by omega)), h n (by omega) (by omega)]
theorem gy_cg {b c : Int → Int} : ∀ n : Nat, (∀ i : Int, 0 ≤ i → i < n → b i = c i) → gy b n = gy c n
  | 0, _ => rfl
  | n + 1, h => by
    funext j
    show (if b n ≠ -1 ∧ j = gk b n then b n else gy b n j) = (if c n ≠ -1 ∧ j = gk c n then c n else gy c n j)
    rw [gy_cg n (fun i i0 i1 => h i i0 (by omega)), gk_cg n (fun i i0 i1 => h i i0 (by omega)), h n (by omega) (by omega)]
theorem gy_rng {b : Int → Int} {B : Int} : ∀ n : Nat, (∀ i : Int, 0 ≤ i → i < n → -1 ≤ b i ∧ b i ≤ B) → ∀ j, 0 ≤ j → j < gk b n → 0 ≤ gy b n j ∧ gy b n j ≤ B
  | 0, _, j, j0, j1 => by
    have : j < 0 := j1
    omega
  | n + 1, h, j, j0, j1 => by
    have hn := h n (by omega) (by omega)
    have j1 : j < (if b n = -1 then gk b n else gk b n + 1) := j1
    show 0 ≤ (if b n ≠ -1 ∧ j = gk b n then b n else gy b n j) ∧ (if b n ≠ -1 ∧ j = gk b n then b n else gy b n j) ≤ B
    by_cases q : b n = -1
    · rw [if_pos q] at j1
      rw [if_neg (fun y => y.1 q)]
      exact gy_rng n (fun i i0 i1 => h i i0 (by omega)) j j0 j1
    · rw [if_neg q] at j1
      by_cases k : j = gk b n
      · rw [if_pos ⟨q, k⟩]; omega
      · rw [if_neg (fun y => k y.2)]
        exact gy_rng n (fun i i0 i1 => h i i0 (by omega)) j j0 (by omega)
theorem bcm_cg {f t l r n : Int} {x y : Int → Int} (e : ∀ i, 0 ≤ i → i < n → x i = y i) {i : Int} (i0 : 0 ≤ i) (i1 : i < n) : bcm f t l r n x i = bcm f t l r n y i := by
  unfold bcm
  rw [e i i0 i1]
  have e1 : (if i = 0 then (26 : Int) else x (i - 1)) = (if i = 0 then 26 else y (i - 1)) := by
    by_cases q : i = 0
    · rw [if_pos q, if_pos q]
    · rw [if_neg q, if_neg q, e (i - 1) (by omega) (by omega)]
  have e2 : (if i + 1 < n then x (i + 1) else (26 : Int)) = (if i + 1 < n then y (i + 1) else 26) := by
    by_cases q : i + 1 < n
    · rw [if_pos q, if_pos q, e (i + 1) (by omega) q]
    · rw [if_neg q, if_neg q]
  rw [e1, e2]
theorem bcm_rng {f t l r n : Int} {x : Int → Int} (ht : -1 ≤ t ∧ t ≤ 25) (hx : ∀ i, 0 ≤ i → i < n → 0 ≤ x i ∧ x i ≤ 25) {i : Int} (i0 : 0 ≤ i) (i1 : i < n) : -1 ≤ bcm f t l r n x i ∧ bcm f t l r n x i ≤ 25 := by
  have := hx i i0 i1
  unfold bcm
  split <;> omega
/-- a row of n sounds behind c changes; T tells the changes -/
def rwn (T : Int → Int → Int) (n : Int) (x : Int → Int) : Nat → Int × (Int → Int)
  | 0 => (n, x)
  | c + 1 => (gk (bcm (T c 0) (T c 1) (T c 2) (T c 3) (rwn T n x c).1 (rwn T n x c).2) (rwn T n x c).1.toNat, gy (bcm (T c 0) (T c 1) (T c 2) (T c 3) (rwn T n x c).1 (rwn T n x c).2) (rwn T n x c).1.toNat)
/-- changes as they may stand in a text -/
def OT (T : Int → Int → Int) (m : Int) : Prop := ∀ c, 0 ≤ c → c < m → -1 ≤ T c 1 ∧ T c 1 ≤ 25
theorem rwn_rng {T : Int → Int → Int} {n m : Int} {x : Int → Int} (O : OT T m) (n0 : 0 ≤ n) (hx : ∀ i, 0 ≤ i → i < n → 0 ≤ x i ∧ x i ≤ 25) : ∀ c : Nat, (c : Int) ≤ m → 0 ≤ (rwn T n x c).1 ∧ (rwn T n x c).1 ≤ n ∧ ∀ i, 0 ≤ i → i < (rwn T n x c).1 → 0 ≤ (rwn T n x c).2 i ∧ (rwn T n x c).2 i ≤ 25
  | 0, _ => ⟨n0, Int.le_refl _, hx⟩
  | c + 1, hc => by
    have ih := rwn_rng O n0 hx c (by omega)
    have g := gk_bd (bcm (T c 0) (T c 1) (T c 2) (T c 3) (rwn T n x c).1 (rwn T n x c).2) (rwn T n x c).1.toNat
    refine ⟨g.1, ?_, ?_⟩
    · show gk _ _ ≤ n
      omega
    · exact gy_rng _ (fun i i0 i1 => bcm_rng (O c (by omega) (by omega)) ih.2.2 i0 (by omega))
theorem rwn_s {T : Int → Int → Int} {n : Int} {x : Int → Int} {c : Int} (h : 0 ≤ c) : rwn T n x (c + 1).toNat = (gk (bcm (T c 0) (T c 1) (T c 2) (T c 3) (rwn T n x c.toNat).1 (rwn T n x c.toNat).2) (rwn T n x c.toNat).1.toNat, gy (bcm (T c 0) (T c 1) (T c 2) (T c 3) (rwn T n x c.toNat).1 (rwn T n x c.toNat).2) (rwn T n x c.toNat).1.toNat) := by
  rw [show (c + 1).toNat = c.toNat + 1 by omega]
  show (gk (bcm (T (c.toNat : Int) 0) (T (c.toNat : Int) 1) (T (c.toNat : Int) 2) (T (c.toNat : Int) 3) (rwn T n x c.toNat).1 (rwn T n x c.toNat).2) (rwn T n x c.toNat).1.toNat, gy (bcm (T (c.toNat : Int) 0) (T (c.toNat : Int) 1) (T (c.toNat : Int) 2) (T (c.toNat : Int) 3) (rwn T n x c.toNat).1 (rwn T n x c.toNat).2) (rwn T n x c.toNat).1.toNat) = _
  rw [show ((c.toNat : Nat) : Int) = c by omega]
/-! the class -/
theorem L_change {h0 : am_H} {q n f t l r : Int} {x : Int → Int} {P : am_H → Prop} (q0 : 0 ≤ q) (q1 : q < 48) (n0 : 0 ≤ n) (n1 : n ≤ 8) (e27 : h0 27 q = f) (e28 : h0 28 q = t) (e29 : h0 29 q = l) (e30 : h0 30 q = r) (hn : h0 24 8 = n) (hx : ∀ i, 0 ≤ i → i < n → h0 31 i = x i) (H : ∀ h1, (∀ p, p ≠ 24 → p ≠ 31 → h1 p = h0 p) → (∀ j, j ≠ 8 → h1 24 j = h0 24 j) → h1 24 8 = gk (bcm f t l r n x) n.toNat → (∀ j, 0 ≤ j → j < gk (bcm f t l r n x) n.toNat → h1 31 j = gy (bcm f t l r n x) n.toNat j) → P h1) : ∀ x4 h, 0 ≤ x4 → x4 ≤ n → (∀ p, p ≠ 31 → h p = h0 p) → (∀ j, x4 ≤ j → j < n → h 31 j = x j) → (∀ j, 0 ≤ j → j < gk (bcm f t l r n x) x4.toNat → h 31 j = gy (bcm f t l r n x) x4.toNat j) → am_x (am_cd 1) 104 (am_qv P) 0 8 [some (.inr (.inr 24)), some (.inl q), some (.inl (gk (bcm f t l r n x) x4.toNat)), some (.inl (if x4 = 0 then 26 else x (x4 - 1))), some (.inl x4), none, none, none, none] [] h := by
  refine upto n (fun x4 ih h a0 a1 a2 a3 a4 => ?_)
  have e8 : h 24 8 = n := by rw [a2 24 (by decide)]; exact hn
  have kb := gk_bd (bcm f t l r n x) x4.toNat
  refine g_Texts_change_8 ?_
  rw [e8]
  have K : ∀ x6, x6 = (if x4 + 1 < n then x (x4 + 1) else 26) → x4 < n → am_x (am_cd 1) 104 (am_qv P) 0 53 [some (.inr (.inr 24)), some (.inl q), some (.inl (gk (bcm f t l r n x) x4.toNat)), some (.inl (if x4 = 0 then 26 else x (x4 - 1))), some (.inl x4), some (.inl (x x4)), some (.inl x6), none, none] [] h := by
    intro x6 e6 hc
    have i := fun h' b2 b3 b4 => ih hc h' (by omega) (by omega) b2 b3 b4
    rw [if_neg (show ¬ x4 + 1 = 0 by omega), show x4 + 1 - 1 = x4 by omega, gk_s a0] at i
    have K2 : ∀ x8, x8 = bcm f t l r n x x4 → am_x (am_cd 1) 104 (am_qv P) 0 116 [some (.inr (.inr 24)), some (.inl q), some (.inl (gk (bcm f t l r n x) x4.toNat)), none, some (.inl x4), some (.inl (x x4)), none, none, some (.inl x8)] [] h := by
      intro x8 e
      refine g_Texts_change_116 ⟨fun c => ⟨by omega, ?_⟩, fun c => ⟨⟨by omega, by omega, by omega⟩, ?_⟩⟩
      · rw [e] at c
        rw [if_pos c] at i
        refine i h a2 (fun j j0 j1 => a3 j (by omega) j1) (fun j j0 j1 => ?_)
        rw [gy_s a0, if_neg (fun y => y.1 c)]; exact a4 j j0 j1
      · rw [e] at c
        rw [if_neg c] at i
        refine i _ (fun p hp => (up_ne hp).trans (a2 p hp)) (fun j j0 j1 => ?_) (fun j j0 j1 => ?_)
        · rw [up_same, if_neg (by omega)]; exact a3 j (by omega) j1
        · rw [up_same, gy_s a0, e]
          by_cases k : j = gk (bcm f t l r n x) x4.toNat
          · rw [if_pos k, if_pos ⟨c, k⟩]
          · rw [if_neg k, if_neg (fun y => k y.2)]; exact a4 j j0 (by omega)
    refine g_Texts_change_53 ?_
    rw [a2 27 (by decide), a2 28 (by decide), a2 29 (by decide), a2 30 (by decide), e27, e28, e29, e30]
    refine ⟨by omega, fun c => K2 _ ?_, fun c => ⟨fun d => K2 _ ?_, fun d => ⟨fun e => K2 _ ?_, fun e => K2 _ ?_⟩⟩⟩
    · unfold bcm; rw [if_neg (fun y => c y.1)]
    · unfold bcm; rw [if_neg (fun y => by omega)]
    · unfold bcm; rw [if_neg (fun y => by omega)]
    · unfold bcm; rw [if_pos ⟨c, by omega, by omega⟩]
  refine ⟨fun hc => ?_, fun hc => ⟨⟨by omega, by omega⟩, ?_⟩⟩
  · have e : x4 = n := by omega
    subst e
    refine H _ (fun p p1 p2 => (up_ne p1).trans (a2 p p2)) (fun j hj => ?_) ?_ (fun j j0 j1 => ?_)
    · rw [up_same, if_neg hj, a2 24 (by decide)]
    · rw [up_same, if_pos rfl]
    · rw [up_ne (by decide)]; exact a4 j j0 j1
  · rw [a3 x4 (by omega) hc]
    refine ⟨fun c => K _ (by rw [if_neg (by omega)]) hc, fun c => ⟨by omega, ?_⟩⟩
    rw [show 1 + x4 = x4 + 1 by omega, a3 (x4 + 1) (by omega) c]
    exact K _ (by rw [if_pos c]) hc
theorem S_change {h : am_H} {q n f t l r : Int} {x : Int → Int} {P : am_H → Prop} (q0 : 0 ≤ q) (q1 : q < 48) (n0 : 0 ≤ n) (n1 : n ≤ 8) (e27 : h 27 q = f) (e28 : h 28 q = t) (e29 : h 29 q = l) (e30 : h 30 q = r) (hn : h 24 8 = n) (hx : ∀ i, 0 ≤ i → i < n → h 31 i = x i) (H : ∀ h1, (∀ p, p ≠ 24 → p ≠ 31 → h1 p = h p) → (∀ j, j ≠ 8 → h1 24 j = h 24 j) → h1 24 8 = gk (bcm f t l r n x) n.toNat → (∀ j, 0 ≤ j → j < gk (bcm f t l r n x) n.toNat → h1 31 j = gy (bcm f t l r n x) n.toNat j) → P h1) : ∃ h_, am_cd 2 104 [.inr (.inr 24), .inl q] h none h_ ∧ P h_ := by
  refine e_Texts_change ?_
  have := L_change q0 q1 n0 n1 e27 e28 e29 e30 hn hx H 0 h (by omega) n0 (fun _ _ => rfl) (fun j j0 j1 => hx j j0 j1) (fun j j0 j1 => by have : j < 0 := j1; omega)
  rw [if_pos rfl] at this
  exact this
/-- the class's changes of text t are T -/
def TC (h : am_H) (t m : Int) (T : Int → Int → Int) : Prop := h 26 t = m ∧ ∀ c, 0 ≤ c → c < m → h 27 (12 * t + c) = T c 0 ∧ h 28 (12 * t + c) = T c 1 ∧ h 29 (12 * t + c) = T c 2 ∧ h 30 (12 * t + c) = T c 3
theorem L_turn45 {h0 : am_H} {t m n : Int} {T : Int → Int → Int} {x : Int → Int} {P : Int → am_H → Prop} (C : TC h0 t m T) (O : OT T m) (t0 : 0 ≤ t) (t1 : t < 4) (m0 : 0 ≤ m) (m1 : m ≤ 12) (n0 : 0 ≤ n) (n1 : n ≤ 8) (hx : ∀ i, 0 ≤ i → i < n → 0 ≤ x i ∧ x i ≤ 25) (H : ∀ h1, (∀ p, p ≠ 24 → p ≠ 31 → h1 p = h0 p) → (∀ j, j ≠ 8 → h1 24 j = h0 24 j) → (∀ j, 0 ≤ j → j < (rwn T n x m.toNat).1 → h1 31 j = (rwn T n x m.toNat).2 j) → P (rwn T n x m.toNat).1 h1) : ∀ x3 h, 0 ≤ x3 → x3 ≤ m → (∀ p, p ≠ 24 → p ≠ 31 → h p = h0 p) → (∀ j, j ≠ 8 → h 24 j = h0 24 j) → h 24 8 = (rwn T n x x3.toNat).1 → (∀ j, 0 ≤ j → j < (rwn T n x x3.toNat).1 → h 31 j = (rwn T n x x3.toNat).2 j) → am_x (am_cd 2) 151 (am_qi P) 0 45 [some (.inr (.inr 24)), none, some (.inl t), some (.inl x3)] [] h := by
  refine upto m (fun x3 ih h a0 a1 a2 a3 a4 a5 => ?_)
  have g := rwn_rng O n0 hx x3.toNat (by omega)
  refine g_Texts_turn_45 ?_
  rw [a2 26 (by decide) (by decide), C.1]
  refine ⟨by omega, fun hc => ?_, fun hc => ⟨⟨by omega, by omega⟩, ?_⟩⟩
  · have e : x3 = m := by omega
    subst e
    rw [a4]; exact H h a2 a3 a5
  · have c := C.2 x3 a0 hc
    have i := fun h' b2 b3 b4 b5 => ih hc h' (by omega) (by omega) b2 b3 b4 b5
    rw [rwn_s a0] at i
    refine am_liftv (Nat.le_of_ble_eq_true rfl) (S_change (q := t * 12 + x3) (f := T x3 0) (t := T x3 1) (l := T x3 2) (r := T x3 3) (by omega) (by omega) g.1 (by omega) ?_ ?_ ?_ ?_ a4 a5 (fun h1 b2 b3 b4 b5 => ⟨by omega, i h1 (fun p p1 p2 => (b2 p p1 p2).trans (a2 p p1 p2)) (fun j hj => (b3 j hj).trans (a3 j hj)) b4 b5⟩))
    · rw [a2 27 (by decide) (by decide), show t * 12 + x3 = 12 * t + x3 by omega]; exact c.1
    · rw [a2 28 (by decide) (by decide), show t * 12 + x3 = 12 * t + x3 by omega]; exact c.2.1
    · rw [a2 29 (by decide) (by decide), show t * 12 + x3 = 12 * t + x3 by omega]; exact c.2.2.1
    · rw [a2 30 (by decide) (by decide), show t * 12 + x3 = 12 * t + x3 by omega]; exact c.2.2.2
/-- the sounds of a form -/
def snd (N : Int → Int) (f : Int) : Int → Int := fun i => N (251 + 9 * f + i)
theorem L_turn14 {N : Int → Int} {h0 : am_H} {f t m : Int} {T : Int → Int → Int} {P : Int → am_H → Prop} (F : OF N) (R : FR h0 N) (f0 : 0 ≤ f) (f1 : f < N 2) (C : TC h0 t m T) (O : OT T m) (t0 : 0 ≤ t) (t1 : t < 4) (m0 : 0 ≤ m) (m1 : m ≤ 12) (H : ∀ h1, (∀ p, p ≠ 24 → p ≠ 31 → h1 p = h0 p) → (∀ j, j ≠ 8 → h1 24 j = h0 24 j) → (∀ j, 0 ≤ j → j < (rwn T (N (250 + 9 * f)) (snd N f) m.toNat).1 → h1 31 j = (rwn T (N (250 + 9 * f)) (snd N f) m.toNat).2 j) → P (rwn T (N (250 + 9 * f)) (snd N f) m.toNat).1 h1) : ∀ x3 h, 0 ≤ x3 → x3 ≤ N (250 + 9 * f) → (∀ p, p ≠ 24 → p ≠ 31 → h p = h0 p) → (∀ j, j ≠ 8 → h 24 j = h0 24 j) → h 24 8 = N (250 + 9 * f) → (∀ j, 0 ≤ j → j < x3 → h 31 j = snd N f j) → am_x (am_cd 2) 151 (am_qi P) 0 14 [some (.inr (.inr 24)), some (.inl f), some (.inl t), some (.inl x3)] [] h := by
  have o := F.2 f f0 f1
  have fN := F.1
  refine upto (N (250 + 9 * f)) (fun x3 ih h a0 a1 a2 a3 a4 a5 => ?_)
  refine g_Texts_turn_14 ?_
  rw [a4]
  refine ⟨fun hc => ?_, fun hc => ⟨⟨by omega, by omega, by omega⟩, ⟨by omega, by omega⟩, ih hc _ (by omega) (by omega) (fun p p1 p2 => (up_ne p2).trans (a2 p p1 p2)) (fun j hj => by rw [up_ne (by decide)]; exact a3 j hj) (by rw [up_ne (by decide)]; exact a4) (fun j j0 j1 => ?_)⟩⟩
  · exact L_turn45 C O t0 t1 m0 m1 (by omega) o.1.2 (fun i i0 i1 => o.2 i i0 i1) H 0 h (by omega) m0 a2 a3 a4 (fun j j0 j1 => a5 j j0 (by have : j < N (250 + 9 * f) := j1; omega))
  · rw [up_same]
    by_cases q : j = x3
    · rw [if_pos q, q, a2 13 (by decide) (by decide), (R.2 f f0 f1).2 x3 a0 hc]; rfl
    · rw [if_neg q]; exact a5 j j0 (by omega)
theorem S_turn {N : Int → Int} {h : am_H} {f t m : Int} {T : Int → Int → Int} {P : Int → am_H → Prop} (F : OF N) (R : FR h N) (f0 : 0 ≤ f) (f1 : f < N 2) (C : TC h t m T) (O : OT T m) (t0 : 0 ≤ t) (t1 : t < 4) (m0 : 0 ≤ m) (m1 : m ≤ 12) (H : ∀ h1, (∀ p, p ≠ 24 → p ≠ 31 → h1 p = h p) → (∀ j, j ≠ 8 → h1 24 j = h 24 j) → (∀ j, 0 ≤ j → j < (rwn T (N (250 + 9 * f)) (snd N f) m.toNat).1 → h1 31 j = (rwn T (N (250 + 9 * f)) (snd N f) m.toNat).2 j) → P (rwn T (N (250 + 9 * f)) (snd N f) m.toNat).1 h1) : ∃ a_ h_, am_cd 3 151 [.inr (.inr 24), .inl f, .inl t] h (some (.inl a_)) h_ ∧ P a_ h_ := by
  have o := F.2 f f0 f1
  have fN := F.1
  refine e_Texts_turn ⟨by omega, ?_⟩
  have a2 : ∀ p, p ≠ 24 → p ≠ 31 → am_up h 24 8 (h 12 f) p = h p := fun p p1 p2 => up_ne p1
  exact L_turn14 F R f0 f1 C O t0 t1 m0 m1 H 0 _ (by omega) (by omega) a2 (fun j hj => by rw [up_same, if_neg hj]) (by rw [up_same, if_pos rfl]; exact (R.2 f f0 f1).1) (fun j _ _ => by omega)
/-! the reference -/
theorem S_Mstands {h : am_H} {c i n : Int} {P : Int → am_H → Prop} (en : h 56 16 = n) (n0 : 0 ≤ n) (n1 : n ≤ 8) (H1 : (c = 27 ∨ c = (if 0 ≤ i ∧ i < n then h 67 i else 26)) → P 1 h) (H0 : ¬ (c = 27 ∨ c = (if 0 ≤ i ∧ i < n then h 67 i else 26)) → P 0 h) : ∃ a_ h_, am_cd 2 131 [.inr (.inr 56), .inl c, .inl i] h (some (.inl a_)) h_ ∧ P a_ h_ := by
  refine e_Mo_stands ?_
  rw [en]
  refine ⟨fun q => H1 (.inl q), fun q => ⟨by omega, fun k => ⟨by omega, fun y => H0 ?_, fun y => H1 ?_⟩, fun k => ⟨fun y => H0 ?_, fun y => H1 ?_⟩⟩⟩
  · rw [if_pos (by omega)]; omega
  · rw [if_pos (by omega)]; omega
  · rw [if_neg (by omega)]; omega
  · rw [if_neg (by omega)]; omega
theorem L_Mbecome195 {h0 : am_H} {t x3 m : Int} {P : am_H → Prop} (x30 : 0 ≤ x3) (x31 : x3 < 192) (m0 : 0 ≤ m) (m1 : m ≤ 8) (H : ∀ h, (∀ p, p ≠ 67 → h p = h0 p) → (∀ j, 0 ≤ j → j < m → h 67 j = h0 68 j) → am_x (am_cd 2) 169 (am_qv P) 0 42 [some (.inr (.inr 56)), none, some (.inl t), some (.inl (x3 + 4)), none, none, none, none] [] h) : ∀ x5 h, 0 ≤ x5 → x5 ≤ m → (∀ p, p ≠ 67 → h p = h0 p) → (∀ j, 0 ≤ j → j < x5 → h 67 j = h0 68 j) → am_x (am_cd 2) 169 (am_qv P) 0 195 [some (.inr (.inr 56)), none, some (.inl t), some (.inl x3), some (.inl m), some (.inl x5), none, none] [] h := by
  refine upto m (fun x5 ih h a0 a1 a2 a3 => ?_)
  refine g_Mo_become_195 ⟨fun hc => ⟨by omega, H h a2 (fun j j0 j1 => a3 j j0 (by omega))⟩, fun hc => ⟨⟨by omega, by omega⟩, ih hc _ (by omega) (by omega) (fun p hp => (up_ne hp).trans (a2 p hp)) (fun j j0 j1 => ?_)⟩⟩
  rw [up_same]
  by_cases q : j = x5
  · rw [if_pos q, a2 68 (by decide), q]
  · rw [if_neg q]; exact a3 j j0 (by omega)
theorem L_Mbecome65 {h0 : am_H} {tt x3 n f t l r : Int} {x : Int → Int} {P : am_H → Prop} (x30 : 0 ≤ x3) (x31 : x3 + 3 < 192) (n0 : 0 ≤ n) (n1 : n ≤ 8) (e0 : h0 65 x3 = f) (e1 : h0 65 (1 + x3) = t) (e2 : h0 65 (2 + x3) = l) (e3 : h0 65 (3 + x3) = r) (en : h0 56 16 = n) (hx : ∀ i, 0 ≤ i → i < n → h0 67 i = x i) (hr : ∀ i, 0 ≤ i → i < n → 0 ≤ x i ∧ x i ≤ 25) (ht : -1 ≤ t ∧ t ≤ 25) (H : ∀ h, (∀ p, p ≠ 56 → p ≠ 67 → p ≠ 68 → h p = h0 p) → (∀ j, j ≠ 16 → h 56 j = h0 56 j) → h 56 16 = gk (bcm f t l r n x) n.toNat → (∀ j, 0 ≤ j → j < gk (bcm f t l r n x) n.toNat → h 67 j = gy (bcm f t l r n x) n.toNat j) → am_x (am_cd 2) 169 (am_qv P) 0 42 [some (.inr (.inr 56)), none, some (.inl tt), some (.inl (x3 + 4)), none, none, none, none] [] h) : ∀ x5 h, 0 ≤ x5 → x5 ≤ n → (∀ p, p ≠ 68 → h p = h0 p) → (∀ j, 0 ≤ j → j < gk (bcm f t l r n x) x5.toNat → h 68 j = gy (bcm f t l r n x) x5.toNat j) → am_x (am_cd 2) 169 (am_qv P) 0 65 [some (.inr (.inr 56)), none, some (.inl tt), some (.inl x3), some (.inl (gk (bcm f t l r n x) x5.toNat)), some (.inl x5), none, none] [] h := by
  refine upto n (fun x5 ih h a0 a1 a2 a3 => ?_)
  have en' : h 56 16 = n := by rw [a2 56 (by decide)]; exact en
  have kb := gk_bd (bcm f t l r n x) x5.toNat
  refine g_Mo_become_65 ?_
  rw [en', a2 65 (by decide), a2 67 (by decide), e0, e2]
  refine ⟨fun hc => ?_, fun hc => ?_⟩
  · have e : x5 = n := by omega
    subst e
    refine L_Mbecome195 (h0 := am_up h 56 16 (gk (bcm f t l r x5 x) x5.toNat)) x30 (by omega) kb.1 (by omega) (fun h1 b2 b3 => H h1 (fun p p1 p2 p3 => ?_) (fun j hj => ?_) ?_ (fun j j0 j1 => ?_)) 0 _ (by omega) kb.1 (fun _ _ => rfl) (fun j _ _ => by omega)
    · rw [b2 p p2, up_ne p1]; exact a2 p p3
    · rw [b2 56 (by decide), up_same, if_neg hj, a2 56 (by decide)]
    · rw [b2 56 (by decide), up_same, if_pos rfl]
    · rw [b3 j j0 j1, up_ne (by decide)]; exact a3 j j0 j1
  · have xe := hx x5 a0 hc
    have xr := hr x5 a0 hc
    have i := fun h' b2 b3 => ih hc h' (by omega) (by omega) b2 b3
    rw [gk_s a0] at i
    have KK : ∀ v, v = bcm f t l r n x x5 → v ≠ -1 → am_x (am_cd 2) 169 (am_qv P) 0 65 [some (.inr (.inr 56)), none, some (.inl tt), some (.inl x3), some (.inl (gk (bcm f t l r n x) x5.toNat + 1)), some (.inl (x5 + 1)), none, none] [] (am_up h 68 (gk (bcm f t l r n x) x5.toNat) v) := by
      intro v e c
      rw [e] at c
      rw [if_neg c] at i
      refine i _ (fun p hp => (up_ne hp).trans (a2 p hp)) (fun j j0 j1 => ?_)
      rw [up_same, gy_s a0, e]
      by_cases k : j = gk (bcm f t l r n x) x5.toNat
      · rw [if_pos k, if_pos ⟨c, k⟩]
      · rw [if_neg k, if_neg (fun y => k y.2)]; exact a3 j j0 (by omega)
    have KS : bcm f t l r n x x5 = -1 → am_x (am_cd 2) 169 (am_qv P) 0 65 [some (.inr (.inr 56)), none, some (.inl tt), some (.inl x3), some (.inl (gk (bcm f t l r n x) x5.toNat)), some (.inl (x5 + 1)), none, none] [] h := by
      intro c
      rw [if_pos c] at i
      refine i h a2 (fun j j0 j1 => ?_)
      rw [gy_s a0, if_neg (fun y => y.1 c)]; exact a3 j j0 j1
    rw [xe]
    refine ⟨⟨by omega, by omega⟩, fun c1 => ⟨fun d => ⟨⟨by omega, by omega, by omega⟩, KK _ ?_ (by omega)⟩, fun d => by omega⟩, fun c1 => ⟨⟨by omega, by omega, by omega⟩, ?_⟩⟩
    · unfold bcm; rw [if_neg (fun y => c1 y.1)]
    · have h67 : ∀ i, 0 ≤ i → i < n → h 67 i = x i := fun i i0 i1 => by rw [a2 67 (by decide)]; exact hx i i0 i1
      have w1 : (if 0 ≤ x5 - 1 ∧ x5 - 1 < n then h 67 (x5 - 1) else 26) = (if x5 = 0 then 26 else x (x5 - 1)) := by
        by_cases q : x5 = 0
        · rw [if_pos q, if_neg (by omega)]
        · rw [if_neg q, if_pos (by omega), h67 _ (by omega) (by omega)]
      have w2 : (if 0 ≤ x5 + 1 ∧ x5 + 1 < n then h 67 (x5 + 1) else 26) = (if x5 + 1 < n then x (x5 + 1) else 26) := by
        by_cases q : x5 + 1 < n
        · rw [if_pos q, if_pos (by omega), h67 _ (by omega) (by omega)]
        · rw [if_neg q, if_neg (by omega)]
      refine am_lifti (Nat.le_of_ble_eq_true rfl) (S_Mstands en' n0 n1 (fun s1 => ⟨fun c => by omega, fun _ => ⟨⟨by omega, by omega, by omega⟩, ?_⟩⟩) (fun s1 => ⟨fun _ => ?_, fun c => absurd rfl c⟩))
      · rw [a2 65 (by decide), e3]
        rw [w1] at s1
        refine am_lifti (Nat.le_of_ble_eq_true rfl) (S_Mstands en' n0 n1 (fun s2 => ⟨fun c => by omega, fun _ => ⟨⟨by omega, by omega⟩, ?_⟩⟩) (fun s2 => ⟨fun _ => ?_, fun c => absurd rfl c⟩))
        · rw [w2] at s2
          have e : bcm f t l r n x x5 = t := by unfold bcm; rw [if_pos ⟨c1, s1, s2⟩]
          rw [a2 65 (by decide), e1]
          exact ⟨fun d => ⟨⟨by omega, by omega⟩, KK _ e.symm (by omega)⟩, fun d => KS (by omega)⟩
        · rw [w2] at s2
          rw [h67 x5 a0 hc]
          refine ⟨fun d => ⟨⟨by omega, by omega⟩, KK _ ?_ (by omega)⟩, fun d => by omega⟩
          unfold bcm; rw [if_neg (fun y => s2 y.2.2)]
      · rw [w1] at s1
        rw [h67 x5 a0 hc]
        refine ⟨fun d => ⟨⟨by omega, by omega, by omega⟩, KK _ ?_ (by omega)⟩, fun d => by omega⟩
        unfold bcm; rw [if_neg (fun y => s1 y.2.1)]
/-- the reference's changes of text t are T -/
def TM (h : am_H) (t m : Int) (T : Int → Int → Int) : Prop := h 64 t = m ∧ ∀ c, 0 ≤ c → c < m → h 65 (48 * t + 4 * c) = T c 0 ∧ h 65 (1 + (48 * t + 4 * c)) = T c 1 ∧ h 65 (2 + (48 * t + 4 * c)) = T c 2 ∧ h 65 (3 + (48 * t + 4 * c)) = T c 3
theorem L_Mbecome42 {h0 : am_H} {t m n : Int} {T : Int → Int → Int} {x : Int → Int} {P : am_H → Prop} (C : TM h0 t m T) (O : OT T m) (t0 : 0 ≤ t) (t1 : t < 4) (m0 : 0 ≤ m) (m1 : m ≤ 12) (n0 : 0 ≤ n) (n1 : n ≤ 8) (hx : ∀ i, 0 ≤ i → i < n → 0 ≤ x i ∧ x i ≤ 25) (H : ∀ h1, (∀ p, p ≠ 56 → p ≠ 67 → p ≠ 68 → h1 p = h0 p) → (∀ j, j ≠ 16 → h1 56 j = h0 56 j) → h1 56 16 = (rwn T n x m.toNat).1 → (∀ j, 0 ≤ j → j < (rwn T n x m.toNat).1 → h1 67 j = (rwn T n x m.toNat).2 j) → P h1) : ∀ c h, 0 ≤ c → c ≤ m → (∀ p, p ≠ 56 → p ≠ 67 → p ≠ 68 → h p = h0 p) → (∀ j, j ≠ 16 → h 56 j = h0 56 j) → h 56 16 = (rwn T n x c.toNat).1 → (∀ j, 0 ≤ j → j < (rwn T n x c.toNat).1 → h 67 j = (rwn T n x c.toNat).2 j) → am_x (am_cd 2) 169 (am_qv P) 0 42 [some (.inr (.inr 56)), none, some (.inl t), some (.inl (48 * t + 4 * c)), none, none, none, none] [] h := by
  refine upto m (fun c ih h a0 a1 a2 a3 a4 a5 => ?_)
  have g := rwn_rng O n0 hx c.toNat (by omega)
  refine g_Mo_become_42 ?_
  rw [a2 64 (by decide) (by decide) (by decide), C.1]
  refine ⟨⟨by omega, by omega, by omega, by omega⟩, fun hc => ?_, fun hc => ?_⟩
  · have e : c = m := by omega
    subst e
    exact H h a2 a3 a4 a5
  · have cc := C.2 c a0 (by omega)
    have i := fun h' b2 b3 b4 b5 => ih (by omega) h' (by omega) (by omega) b2 b3 b4 b5
    rw [rwn_s a0, show 48 * t + 4 * (c + 1) = 48 * t + 4 * c + 4 by omega] at i
    have oc := O c a0 (by omega)
    refine L_Mbecome65 (h0 := h) (x3 := 48 * t + 4 * c) (f := T c 0) (t := T c 1) (l := T c 2) (r := T c 3) (by omega) (by omega) g.1 (by omega) ?_ ?_ ?_ ?_ a4 a5 g.2.2 oc (fun h1 b2 b3 b4 b5 => i h1 (fun p p1 p2 p3 => (b2 p p1 p2 p3).trans (a2 p p1 p2 p3)) (fun j hj => (b3 j hj).trans (a3 j hj)) b4 b5) 0 h (by omega) g.1 (fun _ _ => rfl) (fun j j0 j1 => by have : j < 0 := j1; omega)
    · rw [a2 65 (by decide) (by decide) (by decide)]; exact cc.1
    · rw [a2 65 (by decide) (by decide) (by decide)]; exact cc.2.1
    · rw [a2 65 (by decide) (by decide) (by decide)]; exact cc.2.2.1
    · rw [a2 65 (by decide) (by decide) (by decide)]; exact cc.2.2.2
theorem L_Mbecome11 {N : Int → Int} {h0 : am_H} {f t m : Int} {T : Int → Int → Int} {P : am_H → Prop} (F : OF N) (eN : h0 57 = N) (f0 : 0 ≤ f) (f1 : f < N 2) (C : TM h0 t m T) (O : OT T m) (t0 : 0 ≤ t) (t1 : t < 4) (m0 : 0 ≤ m) (m1 : m ≤ 12) (H : ∀ h1, (∀ p, p ≠ 56 → p ≠ 67 → p ≠ 68 → h1 p = h0 p) → (∀ j, j ≠ 16 → h1 56 j = h0 56 j) → h1 56 16 = (rwn T (N (250 + 9 * f)) (snd N f) m.toNat).1 → (∀ j, 0 ≤ j → j < (rwn T (N (250 + 9 * f)) (snd N f) m.toNat).1 → h1 67 j = (rwn T (N (250 + 9 * f)) (snd N f) m.toNat).2 j) → P h1) : ∀ x3 h, 0 ≤ x3 → x3 ≤ N (250 + 9 * f) → (∀ p, p ≠ 56 → p ≠ 67 → p ≠ 68 → h p = h0 p) → (∀ j, j ≠ 16 → h 56 j = h0 56 j) → h 56 16 = N (250 + 9 * f) → (∀ j, 0 ≤ j → j < x3 → h 67 j = snd N f j) → am_x (am_cd 2) 169 (am_qv P) 0 11 [some (.inr (.inr 56)), some (.inl f), some (.inl t), some (.inl x3), none, none, none, none] [] h := by
  have o := F.2 f f0 f1
  have fN := F.1
  refine upto (N (250 + 9 * f)) (fun x3 ih h a0 a1 a2 a3 a4 a5 => ?_)
  refine g_Mo_become_11 ?_
  rw [a4]
  refine ⟨fun hc => ⟨by omega, ?_⟩, fun hc => ⟨⟨by omega, by omega, by omega, by omega, by omega⟩, ⟨by omega, by omega⟩, ih hc _ (by omega) (by omega) (fun p p1 p2 p3 => (up_ne p2).trans (a2 p p1 p2 p3)) (fun j hj => by rw [up_ne (by decide)]; exact a3 j hj) (by rw [up_ne (by decide)]; exact a4) (fun j j0 j1 => ?_)⟩⟩
  · have := L_Mbecome42 C O t0 t1 m0 m1 (show 0 ≤ N (250 + 9 * f) by omega) o.1.2 (fun i i0 i1 => o.2 i i0 i1) H 0 h (by omega) m0 a2 a3 a4 (fun j j0 j1 => a5 j j0 (by have : j < N (250 + 9 * f) := j1; omega))
    rw [show 48 * t + 4 * 0 = 48 * t by omega] at this
    exact this
  · rw [up_same]
    by_cases q : j = x3
    · rw [if_pos q, q, a2 57 (by decide) (by decide) (by decide), eN]; rfl
    · rw [if_neg q]; exact a5 j j0 (by omega)
theorem S_Mbecome {N : Int → Int} {h : am_H} {f t m : Int} {T : Int → Int → Int} {P : am_H → Prop} (F : OF N) (eN : h 57 = N) (f0 : 0 ≤ f) (f1 : f < N 2) (C : TM h t m T) (O : OT T m) (t0 : 0 ≤ t) (t1 : t < 4) (m0 : 0 ≤ m) (m1 : m ≤ 12) (H : ∀ h1, (∀ p, p ≠ 56 → p ≠ 67 → p ≠ 68 → h1 p = h p) → (∀ j, j ≠ 16 → h1 56 j = h 56 j) → h1 56 16 = (rwn T (N (250 + 9 * f)) (snd N f) m.toNat).1 → (∀ j, 0 ≤ j → j < (rwn T (N (250 + 9 * f)) (snd N f) m.toNat).1 → h1 67 j = (rwn T (N (250 + 9 * f)) (snd N f) m.toNat).2 j) → P h1) : ∃ h_, am_cd 3 169 [.inr (.inr 56), .inl f, .inl t] h none h_ ∧ P h_ := by
  have o := F.2 f f0 f1
  have fN := F.1
  refine e_Mo_become ⟨⟨by omega, by omega, by omega⟩, ?_⟩
  rw [eN]
  exact L_Mbecome11 F eN f0 f1 C O t0 t1 m0 m1 H 0 _ (by omega) (by omega) (fun p p1 _ _ => up_ne p1) (fun j hj => by rw [up_same, if_neg hj]) (by rw [up_same, if_pos rfl]) (fun j _ _ => by omega)
