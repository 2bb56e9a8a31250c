/-! where to go next, and what is foretold -/
noncomputable def mnd (D : Int → Int → Int) (S : Int → Int) (v : Int) : Nat → Int
  | 0 => 1000000
  | j + 1 => if 0 ≤ S j ∧ D v j < mnd D S v j then D v j else mnd D S v j
theorem mnd_s {D : Int → Int → Int} {S : Int → Int} {v x : Int} (h : 0 ≤ x) : mnd D S v (x + 1).toNat = if 0 ≤ S x ∧ D v x < mnd D S v x.toNat then D v x else mnd D S v x.toNat := by
  rw [show (x + 1).toNat = x.toNat + 1 by omega]
  show (if 0 ≤ S (x.toNat : Int) ∧ D v (x.toNat : Int) < mnd D S v x.toNat then D v (x.toNat : Int) else mnd D S v x.toNat) = _
  rw [show ((x.toNat : Nat) : Int) = x by omega]
theorem mnd_le {D : Int → Int → Int} {S : Int → Int} {v : Int} : ∀ j : Nat, mnd D S v j ≤ 1000000 ∧ ∀ u : Int, 0 ≤ u → u < j → 0 ≤ S u → mnd D S v j ≤ D v u
  | 0 => ⟨Int.le_refl _, fun u _ _ => by omega⟩
  | j + 1 => by
    have ih := mnd_le (D := D) (S := S) (v := v) j
    have e : mnd D S v (j + 1) = if 0 ≤ S j ∧ D v j < mnd D S v j then D v j else mnd D S v j := rfl
    rw [e]
    by_cases k : 0 ≤ S j ∧ D v j < mnd D S v j
    · rw [if_pos k]
      refine ⟨by omega, fun u u0 u1 us => ?_⟩
      rcases (show u = j ∨ u < j by omega) with z | z
      · rw [z]; exact Int.le_refl _
      · have := ih.2 u u0 z us; omega
    · rw [if_neg k]
      refine ⟨ih.1, fun u u0 u1 us => ?_⟩
      rcases (show u = j ∨ u < j by omega) with z | z
      · rw [z] at us ⊢
        rcases Int.lt_or_le (D v j) (mnd D S v j) with y | y
        · exact absurd ⟨us, y⟩ k
        · exact y
      · exact ih.2 u u0 z us
theorem mnd_ex {D : Int → Int → Int} {S : Int → Int} {v : Int} : ∀ j : Nat, mnd D S v j = 1000000 ∨ ∃ u : Int, 0 ≤ u ∧ u < j ∧ 0 ≤ S u ∧ mnd D S v j = D v u
  | 0 => .inl rfl
  | j + 1 => by
    have e : mnd D S v (j + 1) = if 0 ≤ S j ∧ D v j < mnd D S v j then D v j else mnd D S v j := rfl
    rw [e]
    by_cases k : 0 ≤ S j ∧ D v j < mnd D S v j
    · rw [if_pos k]; exact .inr ⟨j, by omega, by omega, k.1, rfl⟩
    · rw [if_neg k]
      rcases mnd_ex (D := D) (S := S) (v := v) j with y | ⟨u, u0, u1, u2, u3⟩
      · exact .inl y
      · exact .inr ⟨u, u0, by omega, u2, u3⟩
theorem mnd_W {N : Int → Int} {D : Int → Int → Int} {S : Int → Int} {s : Int} (O : OL N) (W : DW N D) (hs : ∀ v, 0 ≤ v → v < N 0 → (tb s v ↔ 0 ≤ S v)) : isW N s (fun v => mnd D S v (N 0).toNat) := by
  have hN := O.1
  have st : ∀ u v, 0 ≤ u → u < N 0 → 0 ≤ v → v < N 0 → 0 < N (46 + 12 * u + v) → mnd D S v (N 0).toNat ≤ mnd D S u (N 0).toNat + N (46 + 12 * u + v) := by
    intro u v u0 u1 v0 v1 l
    rcases mnd_ex (D := D) (S := S) (v := u) (N 0).toNat with y | ⟨w, w0, w1, w2, w3⟩
    · have := (mnd_le (D := D) (S := S) (v := v) (N 0).toNat).1; omega
    · have a := (mnd_le (D := D) (S := S) (v := v) (N 0).toNat).2 w w0 w1 w2
      have b := D_st W w0 (by omega) u0 u1 v0 v1 l
      rw [w3, D_sym O W u0 u1 w0 (by omega)]
      rw [D_sym O W v0 v1 w0 (by omega)] at a
      omega
  refine ⟨fun v v0 v1 => ?_, fun v v0 v1 k => ?_, st, fun v v0 v1 k => ?_⟩
  · show 0 ≤ mnd D S v (N 0).toNat ∧ (mnd D S v (N 0).toNat = 1000000 ∨ mnd D S v (N 0).toNat ≤ 1188)
    rcases mnd_ex (D := D) (S := S) (v := v) (N 0).toNat with y | ⟨w, w0, w1, w2, w3⟩
    · omega
    · have := D_bd W v0 v1 w0 (show w < N 0 by omega); omega
  · show mnd D S v (N 0).toNat = 0
    have a := (mnd_le (D := D) (S := S) (v := v) (N 0).toNat).2 v v0 (by omega) ((hs v v0 v1).mp k)
    rw [D_0 O W v0 v1] at a
    rcases mnd_ex (D := D) (S := S) (v := v) (N 0).toNat with y | ⟨w, w0, w1, w2, w3⟩
    · omega
    · have := D_bd W v0 v1 w0 (show w < N 0 by omega); omega
  · have k' : mnd D S v (N 0).toNat < 1000000 := k
    rcases mnd_ex (D := D) (S := S) (v := v) (N 0).toNat with y | ⟨w, w0, w1, w2, w3⟩
    · omega
    · have w1' : w < N 0 := by omega
      rw [D_sym O W v0 v1 w0 w1'] at w3
      rcases D_pre O W w0 w1' v0 v1 (by omega) with z | ⟨u, u0, u1, u2, u3⟩
      · subst z; exact .inl ((hs v v0 v1).mpr w2)
      · refine .inr ⟨u, u0, u1, u2, ?_⟩
        have a := (mnd_le (D := D) (S := S) (v := u) (N 0).toNat).2 w w0 w1 w2
        rw [D_sym O W u0 u1 w0 w1'] at a
        have b := st u v u0 u1 v0 v1 u2
        show mnd D S v (N 0).toNat = mnd D S u (N 0).toNat + N (46 + 12 * u + v)
        omega
def nxb (M F S : Int → Int) : Nat → Int
  | 0 => -1
  | j + 1 => if S j < 0 ∧ (nxb M F S j = -1 ∨ M (nxb M F S j) < M j ∨ (M j = M (nxb M F S j) ∧ F (nxb M F S j) < F j)) then j else nxb M F S j
theorem nxb_s {M F S : Int → Int} {x : Int} (h : 0 ≤ x) : nxb M F S (x + 1).toNat = if S x < 0 ∧ (nxb M F S x.toNat = -1 ∨ M (nxb M F S x.toNat) < M x ∨ (M x = M (nxb M F S x.toNat) ∧ F (nxb M F S x.toNat) < F x)) then x else nxb M F S x.toNat := by
  have : ∀ n : Nat, nxb M F S (n + 1) = if S n < 0 ∧ (nxb M F S n = -1 ∨ M (nxb M F S n) < M n ∨ (M n = M (nxb M F S n) ∧ F (nxb M F S n) < F n)) then (n : Int) else nxb M F S n := fun _ => rfl
  have e := this x.toNat
  rw [show ((x.toNat : Nat) : Int) = x by omega] at e
  rw [show (x + 1).toNat = x.toNat + 1 by omega]; exact e
theorem nxb_bd {M F S : Int → Int} : ∀ j : Nat, (nxb M F S j = -1 ∧ ∀ u : Int, 0 ≤ u → u < j → 0 ≤ S u) ∨ (0 ≤ nxb M F S j ∧ nxb M F S j < j ∧ S (nxb M F S j) < 0)
  | 0 => .inl ⟨rfl, fun u _ _ => by omega⟩
  | j + 1 => by
    have ih := nxb_bd (M := M) (F := F) (S := S) j
    have e := nxb_s (M := M) (F := F) (S := S) (x := j) (by omega)
    rw [show ((j : Int) + 1).toNat = j + 1 by omega, show ((j : Int)).toNat = j by omega] at e
    rw [e]
    by_cases k : S j < 0 ∧ (nxb M F S j = -1 ∨ M (nxb M F S j) < M j ∨ (M j = M (nxb M F S j) ∧ F (nxb M F S j) < F j))
    · rw [if_pos k]; exact .inr ⟨by omega, by omega, k.1⟩
    · rw [if_neg k]
      rcases ih with ⟨y1, y2⟩ | y
      · refine .inl ⟨y1, fun u u0 u1 => ?_⟩
        rcases (show u = j ∨ u < j by omega) with z | z
        · subst z
          rcases Int.lt_or_le (S j) 0 with w | w
          · exact absurd ⟨w, .inl y1⟩ k
          · exact w
        · exact y2 u u0 z
      · exact .inr ⟨y.1, by omega, y.2.2⟩
/-- the answer of next -/
noncomputable def nxt (N : Int → Int) (D : Int → Int → Int) (t : Int) : Int :=
  if 0 ≤ t ∧ t < 6 then (if nxb (fun v => mnd D (fun v => sd N (N 4) v t) v (N 0).toNat) (fun v => N (12 + 3 * v)) (fun v => sd N (N 4) v t) (N 0).toNat < 0 then -100006 else nxb (fun v => mnd D (fun v => sd N (N 4) v t) v (N 0).toNat) (fun v => N (12 + 3 * v)) (fun v => sd N (N 4) v t) (N 0).toNat) else -100001
theorem S_sayers {N : Int → Int} {h : am_H} {t : Int} {P : Int → am_H → Prop} (L : OL N) (O : OP N) (F : OF N) (C : OA N) (LL : LR h N) (PP : PR h N) (AA : AR h N) (e4 : h 0 12 = N 4) (H : ∀ h1 s, (∀ p, p ≠ 23 → h1 p = h p) → (∀ v, 0 ≤ v → v < 32 → (tb s v ↔ v < N 0 ∧ 0 ≤ sd N (N 4) v t)) → P s h1) : ∃ a_ h_, am_cd 4 189 [.inr (.inr 0), .inl t] h (some (.inl a_)) h_ ∧ P a_ h_ := by
  have hN := L.1
  have key : ∀ x3 x2 h', 0 ≤ x3 → x3 ≤ N 0 → (∀ p, p ≠ 23 → h' p = h p) → (∀ v, 0 ≤ v → v < 32 → (tb x2 v ↔ v < x3 ∧ 0 ≤ sd N (N 4) v t)) → am_x (am_cd 3) 189 (am_qi P) 0 4 [some (.inr (.inr 0)), some (.inl t), some (.inl x2), some (.inl x3)] [] h' := by
    refine upto (N 0) (fun x3 ih x2 h' a0 a1 a2 a3 => ?_)
    refine g_At_sayers_4 ?_
    rw [a2 1 (by decide), LL.1, a2 0 (by decide), e4]
    have PP' : PR h' N := by unfold PR; rw [a2 7 (by decide), a2 8 (by decide), a2 9 (by decide), a2 10 (by decide)]; exact PP
    have AA' : AR h' N := by unfold AR; rw [a2 17 (by decide), a2 18 (by decide), a2 19 (by decide), a2 20 (by decide), a2 21 (by decide), a2 22 (by decide)]; exact AA
    refine ⟨fun hc => H h' x2 a2 (fun v v0 v1 => by rw [a3 v v0 v1, show x3 = N 0 by omega]), fun hc => am_lifti (Nat.le_of_ble_eq_true rfl) (S_saidBy O F C PP' AA' (fun h2 f2 => ?_))⟩
    have sb := sd_bd (N := N) (d := N 4) (v := x3) (t := t) F.1.1
    refine ⟨fun c => ⟨by omega, ih hc x2 h2 (by omega) (by omega) (fun p hp => (f2 p hp).trans (a2 p hp)) (fun v v0 v1 => ?_)⟩, fun c => ⟨by omega, ih hc _ h2 (by omega) (by omega) (fun p hp => (f2 p hp).trans (a2 p hp)) (fun v v0 v1 => ?_)⟩⟩
    · rw [a3 v v0 v1]
      constructor
      · rintro ⟨k1, k2⟩; exact ⟨by omega, k2⟩
      · rintro ⟨k1, k2⟩
        rcases (show v = x3 ∨ v < x3 by omega) with z | z
        · subst z; omega
        · exact ⟨z, k2⟩
    · rw [tb_add v0 v1 a0 (by omega), a3 v v0 v1]
      constructor
      · rintro (⟨k1, k2⟩ | k)
        · exact ⟨by omega, k2⟩
        · subst k; exact ⟨by omega, by omega⟩
      · rintro ⟨k1, k2⟩
        rcases (show v = x3 ∨ v < x3 by omega) with z | z
        · exact .inr z
        · exact .inl ⟨z, k2⟩
  exact e_At_sayers (key 0 0 h (by omega) hN.1 (fun _ _ => rfl) (fun v v0 v1 => ⟨fun k => absurd k tb_zero, fun k => by omega⟩))
theorem S_farthest {N : Int → Int} {D : Int → Int → Int} {S : Int → Int} {h : am_H} {s : Int} {P : Int → am_H → Prop} (L : OL N) (W : DW N D) (LL : LR h N) (hs : ∀ v, 0 ≤ v → v < 32 → (tb s v ↔ v < N 0 ∧ S v < 0)) (H : ∀ h1, (∀ p, p ≠ 6 → h1 p = h p) → P (nxb (fun v => mnd D S v (N 0).toNat) (fun v => N (12 + 3 * v)) S (N 0).toNat) h1) : ∃ a_ h_, am_cd 5 215 [.inr (.inr 0), .inl s] h (some (.inl a_)) h_ ∧ P a_ h_ := by
  have hN := L.1
  have sh := shl_ok hN.1 hN.2
  refine e_At_farthest ?_
  rw [LL.1]
  refine ⟨by omega, am_liftv (Nat.le_of_ble_eq_true rfl) (S_walkFrom L LL (fun h1 f1 w1 => ?_))⟩
  have w2 := mnd_W (S := S) (s := am_and (am_shl 1 (N 0) - 1) (am_xor s (-1))) L W (fun v v0 v1 => by
    rw [tb_and v0 (by omega), tb_not v0 (by omega), tb_all v0 (by omega) hN.1 hN.2, hs v v0 (by omega)]
    constructor
    · rintro ⟨_, k⟩
      rcases Int.lt_or_le (S v) 0 with z | z
      · exact absurd ⟨v1, z⟩ k
      · exact z
    · intro k; exact ⟨v1, fun y => by omega⟩)
  have e6 : ∀ b, 0 ≤ b → b < N 0 → h1 6 b = mnd D S b (N 0).toNat := fun b b0 b1 => isW_eq w2 w1 b0 b1
  have key : ∀ x3, 0 ≤ x3 → x3 ≤ N 0 → am_x (am_cd 4) 215 (am_qi P) 0 22 [some (.inr (.inr 0)), some (.inl s), some (.inl (nxb (fun v => mnd D S v (N 0).toNat) (fun v => N (12 + 3 * v)) S x3.toNat)), some (.inl x3)] [] h1 := by
    refine upto (N 0) (fun x3 ih a0 a1 => ?_)
    refine g_At_farthest_22 ?_
    rw [f1 1 (by decide), LL.1]
    have ns := nxb_s (M := fun v => mnd D S v (N 0).toNat) (F := fun v => N (12 + 3 * v)) (S := S) a0
    have nb := nxb_bd (M := fun v => mnd D S v (N 0).toNat) (F := fun v => N (12 + 3 * v)) (S := S) x3.toNat
    refine ⟨fun hc => ?_, fun hc => ?_⟩
    · rw [show x3 = N 0 by omega]; exact H h1 f1
    · have ih' := ih hc (by omega) (by omega)
      rw [ns] at ih'
      generalize nxb (fun v => mnd D S v (N 0).toNat) (fun v => N (12 + 3 * v)) S x3.toNat = b at *
      refine ⟨fun c => ⟨by omega, ?_⟩, fun c => ?_⟩
      · have k : ¬ S x3 < 0 := fun y => tb_eq.mp c ((hs x3 a0 (by omega)).mpr ⟨hc, y⟩)
        rw [if_neg (fun y => k y.1)] at ih'; exact ih'
      · have k := ((hs x3 a0 (by omega)).mp c).2
        refine ⟨fun c2 => ⟨by omega, ?_⟩, fun c2 => ?_⟩
        · rw [if_pos ⟨k, .inl c2⟩] at ih'; exact ih'
        · have bb' : 0 ≤ b ∧ b < x3 := by rcases nb with z | z <;> omega
          have l1 := LL.2.1 b bb'.1 (by omega)
          have l2 := LL.2.1 x3 a0 hc
          rw [e6 b bb'.1 (by omega), e6 x3 a0 hc, f1 4 (by decide), l1.2.2, l2.2.2]
          refine ⟨⟨by omega, by omega⟩, fun c3 => ⟨by omega, ?_⟩, fun c3 => ⟨by omega, ?_⟩⟩
          · rw [if_pos ⟨k, .inr c3⟩] at ih'; exact ih'
          · rw [if_neg (fun y => y.2.elim (fun z => c2 z) c3)] at ih'; exact ih'
  exact key 0 (by omega) hN.1
theorem S_next {N : Int → Int} {D : Int → Int → Int} {h : am_H} {t : Int} {P : Int → am_H → Prop} (L : OL N) (O : OP N) (F : OF N) (C : OA N) (W : DW N D) (LL : LR h N) (PP : PR h N) (AA : AR h N) (e4 : h 0 12 = N 4) (hf : am_ok (h 0 13 + 1)) (H : ∀ h1, (∀ p, p ≠ 0 → p ≠ 6 → p ≠ 23 → h1 p = h p) → (∀ j, j ≠ 13 → h1 0 j = h 0 j) → h1 0 13 = h 0 13 + (if nxt N D t < -99999 then 1 else 0) → P (nxt N D t) h1) : ∃ a_ h_, am_cd 6 225 [.inr (.inr 0), .inl t] h (some (.inl a_)) h_ ∧ P a_ h_ := by
  have hN := L.1
  have sh := shl_ok hN.1 hN.2
  have er : ∀ c h', (∀ p, p ≠ 23 → h' p = h p) → nxt N D t = c → c < -99999 → am_ok (h' 0 13 + 1) ∧ P c (am_up h' 0 13 (h' 0 13 + 1)) := by
    intro c h' f e l
    rw [f 0 (by decide)]
    refine ⟨hf, ?_⟩
    rw [← e]
    refine H _ (fun p p1 p2 p3 => by rw [up_ne p1, f p p3]) (fun j j0 => by rw [up_same, if_neg j0, f 0 (by decide)]) ?_
    rw [up_same, if_pos rfl, e, if_pos l]
  refine e_At_next ?_
  rw [LL.1]
  refine ⟨fun c => ⟨by omega, am_lifti (Nat.le_of_ble_eq_true rfl) (S_sayers L O F C LL PP AA e4 (fun h1 s f1 w1 => ?_))⟩, fun c => er _ h (fun _ _ => rfl) (by unfold nxt; rw [if_neg c]) (by decide)⟩
  have r0 : nxt N D t = if nxb (fun v => mnd D (fun v => sd N (N 4) v t) v (N 0).toNat) (fun v => N (12 + 3 * v)) (fun v => sd N (N 4) v t) (N 0).toNat < 0 then -100006 else nxb (fun v => mnd D (fun v => sd N (N 4) v t) v (N 0).toNat) (fun v => N (12 + 3 * v)) (fun v => sd N (N 4) v t) (N 0).toNat := by unfold nxt; rw [if_pos c]
  have hs : ∀ v, 0 ≤ v → v < 32 → (tb (am_and (am_shl 1 (N 0) - 1) (am_xor s (-1))) v ↔ v < N 0 ∧ sd N (N 4) v t < 0) := fun v v0 v1 => by
    rw [tb_and v0 v1, tb_not v0 v1, tb_all v0 v1 hN.1 hN.2, w1 v v0 v1]
    constructor
    · rintro ⟨k1, k2⟩
      rcases Int.lt_or_le (sd N (N 4) v t) 0 with z | z
      · exact ⟨k1, z⟩
      · exact absurd ⟨k1, z⟩ k2
    · rintro ⟨k1, k2⟩; exact ⟨k1, fun y => by omega⟩
  have nb := nxb_bd (M := fun v => mnd D (fun v => sd N (N 4) v t) v (N 0).toNat) (F := fun v => N (12 + 3 * v)) (S := fun v => sd N (N 4) v t) (N 0).toNat
  have LL1 : LR h1 N := LR_of (f1 1 (by decide)) (f1 2 (by decide)) (f1 3 (by decide)) (f1 4 (by decide)) (f1 5 (by decide)) LL
  refine ⟨fun c2 => am_lifti (Nat.le_of_ble_eq_true rfl) (S_farthest (S := fun v => sd N (N 4) v t) L W LL1 hs (fun h2 f2 => ?_)), fun c2 => er _ h1 f1 ?_ (by decide)⟩
  · generalize nxb (fun v => mnd D (fun v => sd N (N 4) v t) v (N 0).toNat) (fun v => N (12 + 3 * v)) (fun v => sd N (N 4) v t) (N 0).toNat = b at *
    have b0 : 0 ≤ b := by
      rcases nb with ⟨_, z⟩ | z
      · exfalso
        refine c2 (tb_ext (ok_and _ _) (by decide) (fun v v0 v1 => ⟨fun k => ?_, fun k => absurd k tb_zero⟩))
        have k2 := (hs v v0 v1).mp k
        have k3 : 0 ≤ sd N (N 4) v t := z v v0 (by omega)
        omega
      · exact z.1
    rw [if_neg (by omega)] at r0
    rw [← r0]
    have e0 : h2 0 = h 0 := (f2 0 (by decide)).trans (f1 0 (by decide))
    exact H h2 (fun p _ p2 p3 => (f2 p p2).trans (f1 p p3)) (fun j _ => by rw [e0]) (by rw [e0, r0, if_neg (by omega)]; omega)
  · generalize nxb (fun v => mnd D (fun v => sd N (N 4) v t) v (N 0).toNat) (fun v => N (12 + 3 * v)) (fun v => sd N (N 4) v t) (N 0).toNat = b at *
    rcases nb with ⟨z, _⟩ | z
    · rw [r0, if_pos (by omega)]
    · exfalso
      have z3 : sd N (N 4) b t < 0 := z.2.2
      have := (hs b z.1 (by omega)).mpr ⟨by omega, z3⟩
      rw [c2] at this
      exact tb_zero this
theorem L_Mnext73 {N : Int → Int} {D : Int → Int → Int} {S : Int → Int} {h : am_H} {t x2 x3 x4 : Int} {P : Int → am_H → Prop} (L : OL N) (eN : h 57 = N) (t0 : 0 ≤ t) (t1 : t < 6) (x40 : 0 ≤ x4) (x41 : x4 < N 0) (hS : ∀ u, 0 ≤ u → u < N 0 → h 62 (6 * u + t) = S u) (hw : ∀ b, 0 ≤ b → b < N 0 → (h 59 b < 0 ∧ D x4 b = 1000000) ∨ (0 ≤ h 59 b ∧ h 59 b = D x4 b)) (x2b : x2 = -1 ∨ (0 ≤ x2 ∧ x2 < x4)) (H : am_ok (x4 + 1) → am_x (am_cd 3) 198 (am_qi P) 0 31 [some (.inr (.inr 56)), some (.inl t), some (.inl (if x2 = -1 ∨ x3 < mnd D S x4 (N 0).toNat ∨ (mnd D S x4 (N 0).toNat = x3 ∧ N (12 + 3 * x2) < N (12 + 3 * x4)) then x4 else x2)), some (.inl (if x2 = -1 ∨ x3 < mnd D S x4 (N 0).toNat ∨ (mnd D S x4 (N 0).toNat = x3 ∧ N (12 + 3 * x2) < N (12 + 3 * x4)) then mnd D S x4 (N 0).toNat else x3)), some (.inl (x4 + 1)), none, none] [] h) : ∀ x6, 0 ≤ x6 → x6 ≤ N 0 → am_x (am_cd 3) 198 (am_qi P) 0 73 [some (.inr (.inr 56)), some (.inl t), some (.inl x2), some (.inl x3), some (.inl x4), some (.inl (mnd D S x4 x6.toNat)), some (.inl x6)] [] h := by
  have hN := L.1
  refine upto (N 0) (fun x6 ih a0 a1 => ?_)
  refine g_Mo_next_73 ?_
  rw [eN]
  have ms := mnd_s (D := D) (S := S) (v := x4) a0
  have ml := (mnd_le (D := D) (S := S) (v := x4) x6.toNat).1
  refine ⟨fun hc => ?_, fun hc => ?_⟩
  · have H' := H (by omega)
    rw [show x6 = N 0 by omega]
    generalize mnd D S x4 (N 0).toNat = m at *
    refine ⟨fun c => ⟨by omega, ?_⟩, fun c => ⟨fun c2 => ⟨by omega, ?_⟩, fun c2 => ⟨fun c3 => ⟨by omega, ?_⟩, fun c3 => ⟨⟨by omega, by omega, by omega, by omega⟩, ⟨by omega, by omega, by omega, by omega⟩, fun c4 => ⟨by omega, ?_⟩, fun c4 => ⟨by omega, ?_⟩⟩⟩⟩⟩
    · have k : x2 = -1 := by omega
      rw [if_pos (.inl k), if_pos (.inl k)] at H'; exact H'
    · rw [if_neg (by omega), if_neg (by omega)] at H'; exact H'
    · rw [if_pos (by omega), if_pos (by omega)] at H'; exact H'
    · rw [if_pos (.inr (.inr ⟨c3, c4⟩)), if_pos (.inr (.inr ⟨c3, c4⟩))] at H'; exact H'
    · rw [if_neg (by omega), if_neg (by omega)] at H'; exact H'
  · have ih' := ih hc (by omega) (by omega)
    rw [ms] at ih'
    rw [hS x6 a0 hc]
    have w := hw x6 a0 hc
    generalize mnd D S x4 x6.toNat = m at *
    refine ⟨⟨by omega, by omega, by omega⟩, fun c => ⟨by omega, ?_⟩, fun c => ⟨by omega, fun c2 => ⟨by omega, ?_⟩, fun c2 => ⟨fun c3 => ⟨by omega, ?_⟩, fun c3 => ⟨by omega, ?_⟩⟩⟩⟩
    · rw [if_neg (by omega)] at ih'; exact ih'
    · rw [if_neg (by omega)] at ih'; exact ih'
    · rw [if_neg (by omega)] at ih'; exact ih'
    · rw [if_pos ⟨c, by omega⟩] at ih'
      rw [show h 59 x6 = D x4 x6 by omega]; exact ih'
theorem Wof_or {N : Int → Int} {D : Int → Int → Int} {w : Int → Int} {a : Int} (W : DW N D) (a0 : 0 ≤ a) (a1 : a < N 0) (w1 : isW N (am_shl 1 a) (Wof w)) (w2 : ∀ v, 0 ≤ v → v < N 0 → w v ≤ 1188) : ∀ b, 0 ≤ b → b < N 0 → (w b < 0 ∧ D a b = 1000000) ∨ (0 ≤ w b ∧ w b = D a b) := by
  intro b b0 b1
  have e := isW_eq (W a a0 a1) w1 b0 b1
  unfold Wof at e
  by_cases k : w b < 0
  · rw [if_pos k] at e; exact .inl ⟨k, e.symm⟩
  · rw [if_neg k] at e; exact .inr ⟨by omega, e⟩
theorem S_Mnext {N : Int → Int} {D : Int → Int → Int} {h : am_H} {t : Int} {P : Int → am_H → Prop} (L : OL N) (O : OP N) (F : OF N) (C : OA N) (W : DW N D) (eN : h 57 = N) (hf : am_ok (h 56 3 + 1)) (H : ∀ h1, (∀ p, p ≠ 56 → p ≠ 59 → p ≠ 61 → p ≠ 62 → h1 p = h p) → (∀ j, j ≠ 3 → h1 56 j = h 56 j) → h1 56 3 = h 56 3 + (if nxt N D t < -99999 then 1 else 0) → P (nxt N D t) h1) : ∃ a_ h_, am_cd 4 198 [.inr (.inr 56), .inl t] h (some (.inl a_)) h_ ∧ P a_ h_ := by
  have hN := L.1
  have er : ∀ c h', (∀ p, p ≠ 59 → p ≠ 61 → p ≠ 62 → h' p = h p) → nxt N D t = c → c < -99999 → am_ok (h' 56 3 + 1) ∧ P c (am_up h' 56 3 (h' 56 3 + 1)) := by
    intro c h' f e l
    rw [f 56 (by decide) (by decide) (by decide)]
    refine ⟨hf, ?_⟩
    rw [← e]
    refine H _ (fun p p1 p2 p3 p4 => by rw [up_ne p1, f p p2 p3 p4]) (fun j j0 => by rw [up_same, if_neg j0, f 56 (by decide) (by decide) (by decide)]) ?_
    rw [up_same, if_pos rfl, e, if_pos l]
  refine e_Mo_next ⟨fun c => ?_, fun c => er _ h (fun _ _ _ _ => rfl) (by unfold nxt; rw [if_neg (by omega)]) (by decide)⟩
  rw [eN]
  refine am_liftv (Nat.le_of_ble_eq_true rfl) (S_Msettle O L F C eN (fun h1 f1 _ w1 => ?_))
  have r0 : nxt N D t = if nxb (fun v => mnd D (fun v => sd N (N 4) v t) v (N 0).toNat) (fun v => N (12 + 3 * v)) (fun v => sd N (N 4) v t) (N 0).toNat < 0 then -100006 else nxb (fun v => mnd D (fun v => sd N (N 4) v t) v (N 0).toNat) (fun v => N (12 + 3 * v)) (fun v => sd N (N 4) v t) (N 0).toNat := by unfold nxt; rw [if_pos (by omega)]
  have nb := nxb_bd (M := fun v => mnd D (fun v => sd N (N 4) v t) v (N 0).toNat) (F := fun v => N (12 + 3 * v)) (S := fun v => sd N (N 4) v t)
  have ns := fun (x : Int) (h0 : 0 ≤ x) => nxb_s (M := fun v => mnd D (fun v => sd N (N 4) v t) v (N 0).toNat) (F := fun v => N (12 + 3 * v)) (S := fun v => sd N (N 4) v t) (x := x) h0
  generalize hb : nxb (fun v => mnd D (fun v => sd N (N 4) v t) v (N 0).toNat) (fun v => N (12 + 3 * v)) (fun v => sd N (N 4) v t) = B at *
  have key : ∀ x4 x3 h', 0 ≤ x4 → x4 ≤ N 0 → (∀ p, p ≠ 59 → h' p = h1 p) → (B x4.toNat = -1 ∨ x3 = mnd D (fun v => sd N (N 4) v t) (B x4.toNat) (N 0).toNat) → am_x (am_cd 3) 198 (am_qi P) 0 31 [some (.inr (.inr 56)), some (.inl t), some (.inl (B x4.toNat)), some (.inl x3), some (.inl x4), none, none] [] h' := by
    refine upto (N 0) (fun x4 ih x3 h' a0 a1 a2 a3 => ?_)
    refine g_Mo_next_31 ?_
    have e57 : h' 57 = N := (a2 57 (by decide)).trans ((f1 57 (by decide) (by decide)).trans eN)
    have fr : ∀ p, p ≠ 59 → p ≠ 61 → p ≠ 62 → h' p = h p := fun p p1 p2 p3 => (a2 p p1).trans (f1 p p2 p3)
    rw [e57]
    refine ⟨fun hc => ?_, fun hc => ⟨⟨by omega, by omega, by omega⟩, ?_⟩⟩
    · rw [show x4 = N 0 by omega]
      refine ⟨fun c2 => ?_, fun c2 => er _ h' fr (by rw [r0, if_pos c2]) (by decide)⟩
      rw [if_neg (by omega)] at r0
      rw [← r0]
      have e0 : h' 56 = h 56 := fr 56 (by decide) (by decide) (by decide)
      exact H h' (fun p _ p2 p3 p4 => fr p p2 p3 p4) (fun j _ => by rw [e0]) (by rw [e0, r0, if_neg (by omega)]; omega)
    · have e62 : ∀ u, 0 ≤ u → u < N 0 → h' 62 (6 * u + t) = sd N (N 4) u t := fun u u0 u1 => by rw [a2 62 (by decide)]; exact w1 u t u0 u1 c.1 (by omega)
      rw [e62 x4 a0 hc]
      have n := ns x4 a0
      have bd := nb x4.toNat
      refine ⟨fun c2 => am_liftv (Nat.le_of_ble_eq_true rfl) (S_MfindWalks L a0 hc e57 (fun h2 f2 v1 v2 => ?_)), fun c2 => ⟨by omega, ?_⟩⟩
      · have ix := fun x3' y => ih hc x3' h2 (by omega) (by omega) (fun p hp => (f2 p hp).trans (a2 p hp)) y
        rw [n] at ix
        generalize B x4.toNat = b at *
        refine L_Mnext73 (D := D) (S := fun v => sd N (N 4) v t) L ((f2 57 (by decide)).trans e57) c.1 (by omega) a0 hc (fun u u0 u1 => by rw [f2 62 (by decide)]; exact e62 u u0 u1) (Wof_or W a0 hc v1 v2) (by rcases bd with z | z <;> omega) (fun ok => ?_) 0 (by omega) hN.1
        by_cases k : b = -1 ∨ x3 < mnd D (fun v => sd N (N 4) v t) x4 (N 0).toNat ∨ (mnd D (fun v => sd N (N 4) v t) x4 (N 0).toNat = x3 ∧ N (12 + 3 * b) < N (12 + 3 * x4))
        · rw [if_pos k, if_pos k]
          have k2 : sd N (N 4) x4 t < 0 ∧ (b = -1 ∨ mnd D (fun v => sd N (N 4) v t) b (N 0).toNat < mnd D (fun v => sd N (N 4) v t) x4 (N 0).toNat ∨ (mnd D (fun v => sd N (N 4) v t) x4 (N 0).toNat = mnd D (fun v => sd N (N 4) v t) b (N 0).toNat ∧ N (12 + 3 * b) < N (12 + 3 * x4))) := by
            refine ⟨c2, ?_⟩
            rcases a3 with z | z
            · exact .inl z
            · rw [← z]; exact k
          rw [if_pos k2] at ix
          exact ix _ (.inr rfl)
        · rw [if_neg k, if_neg k]
          have z : x3 = mnd D (fun v => sd N (N 4) v t) b (N 0).toNat := by
            rcases a3 with z | z
            · exact absurd (.inl z) k
            · exact z
          rw [if_neg (fun y => k (by rw [z]; exact y.2))] at ix
          exact ix _ (.inr z)
      · have ix := ih hc x3 h' (by omega) (by omega) a2
        rw [n, if_neg (fun y => by have := y.1; omega)] at ix
        exact ix a3
  have z0 : B 0 = -1 := by rw [← hb]; rfl
  have := key 0 0 h1 (by omega) hN.1 (fun _ _ => rfl) (.inl z0)
  rw [show (0 : Int).toNat = 0 by rfl, z0] at this
  exact this
