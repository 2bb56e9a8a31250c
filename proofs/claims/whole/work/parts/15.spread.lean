/-! roads of a village; spreading -/
def nb (N : Int → Int) (v r : Int) : Prop := am_ok r ∧ ∀ u, 0 ≤ u → u < 32 → (tb r u ↔ u < N 0 ∧ 0 < N (46 + 12 * v + u))
theorem tb_add {r x u : Int} (u0 : 0 ≤ u) (u1 : u < 32) (x0 : 0 ≤ x) (x1 : x < 32) : tb (am_or r (am_shl 1 x)) u ↔ tb r u ∨ u = x := by
  rw [tb_or u0 u1, tb_shl u0 u1 x0 x1]
  constructor <;> (intro q; rcases q with q | q; exact .inl q; exact .inr q.symm)
theorem L_neighboursOf {h : am_H} {N : Int → Int} {v : Int} {P : Int → am_H → Prop} (O : OL N) (R : LR h N) (v0 : 0 ≤ v) (v1 : v < N 0) (H : ∀ r, nb N v r → P r h) : ∀ x3 x2, 0 ≤ x3 → x3 ≤ N 0 → am_ok x2 → (∀ u, 0 ≤ u → u < 32 → (tb x2 u ↔ u < x3 ∧ 0 < N (46 + 12 * v + u))) → am_x (am_cd 2) 145 (am_qi P) 0 4 [some (.inr (.inr 1)), some (.inl v), some (.inl x2), some (.inl x3)] [] h := by
  have hN := O.1
  have R0 := R.1
  refine upto (N 0) (fun x3 ih x2 a0 a1 a2 a3 => ?_)
  refine g_Land_neighboursOf_4 ⟨fun hc => ?_, fun hc => ?_⟩
  · have e : x3 = N 0 := by omega
    subst e
    exact H _ ⟨a2, a3⟩
  · have r := R.2.2 v x3 v0 (by omega) a0 (by omega)
    refine ⟨⟨by omega, by omega⟩, by omega, fun hd => ⟨by omega, ih (by omega) _ (by omega) (by omega) a2 (fun u u0 u1 => ?_)⟩, fun hd => ⟨by omega, ih (by omega) _ (by omega) (by omega) (ok_or _ _) (fun u u0 u1 => ?_)⟩⟩
    · rw [a3 u u0 u1]
      by_cases q : u = x3
      · subst q; omega
      · omega
    · rw [tb_add u0 u1 a0 (by omega), a3 u u0 u1]
      by_cases q : u = x3
      · subst q; omega
      · omega
theorem S_neighboursOf {h : am_H} {N : Int → Int} {v : Int} {P : Int → am_H → Prop} (O : OL N) (R : LR h N) (v0 : 0 ≤ v) (v1 : v < N 0) (H : ∀ r, nb N v r → P r h) : ∃ a_ h_, am_cd 3 145 [.inr (.inr 1), .inl v] h (some (.inl a_)) h_ ∧ P a_ h_ :=
  e_Land_neighboursOf (L_neighboursOf O R v0 v1 H 0 0 (by omega) O.1.1 (by decide) (fun u u0 u1 => ⟨fun q => absurd q tb_zero, fun q => by omega⟩))
def wi (N : Int → Int) (s v : Int) : Int := su (fun u => if 0 < N (46 + 12 * v + u) ∧ tb s u then N (12 + 3 * u) else 0) (N 0)
def wo (N : Int → Int) (s v : Int) : Int := su (fun u => if 0 < N (46 + 12 * v + u) ∧ ¬ tb s u then N (12 + 3 * u) else 0) (N 0)
def tkc (N : Int → Int) (s v : Int) : Prop := v < N 0 ∧ 0 < wi N s v ∧ wo N s v ≤ wi N s v
def tk (N : Int → Int) (s r : Int) : Prop := am_ok r ∧ ∀ v, 0 ≤ v → v < 32 → (tb r v ↔ tb s v ∨ tkc N s v)
theorem tk_one {N : Int → Int} {s r r' : Int} (A : tk N s r) (B : tk N s r') : r = r' := tb_ext A.1 B.1 (fun v v0 v1 => (A.2 v v0 v1).trans (B.2 v v0 v1).symm)
def itr (N : Int → Int) : Nat → Int → Int → Prop
  | 0, s, r => s = r
  | n + 1, s, r => ∃ m, tk N s m ∧ itr N n m r
theorem itr_one {N : Int → Int} : ∀ {n : Nat} {s r r' : Int}, itr N n s r → itr N n s r' → r = r'
  | 0, _, _, _, A, B => A.symm.trans B
  | n + 1, _, _, _, ⟨m, a1, a2⟩, ⟨m', b1, b2⟩ => by
    have := tk_one a1 b1
    subst this
    exact itr_one a2 b2
theorem itr_fix {N : Int → Int} {s : Int} (h : tk N s s) : ∀ n : Nat, itr N n s s
  | 0 => rfl
  | n + 1 => ⟨s, h, itr_fix h n⟩
/-- what the survey has found -/
def SV (h : am_H) (N : Int → Int) : Prop := ∀ v, 0 ≤ v → v < N 0 → nb N v (h 45 v) ∧ h 46 v = fo N (h 45 v) (N 0)
theorem L_survey {h0 : am_H} {N : Int → Int} {P : am_H → Prop} (O : OL N) (H : ∀ h1, (∀ p, p ≠ 45 → p ≠ 46 → h1 p = h0 p) → SV h1 N → P h1) : ∀ x1 h, LR h N → 0 ≤ x1 → x1 ≤ N 0 → (∀ p, p ≠ 45 → p ≠ 46 → h p = h0 p) → (∀ v, 0 ≤ v → v < x1 → nb N v (h 45 v) ∧ h 46 v = fo N (h 45 v) (N 0)) → am_x (am_cd 3) 181 (am_qv P) 0 2 [some (.inr (.inr 44)), some (.inl x1)] [] h := by
  have hN := O.1
  refine upto (N 0) (fun x1 ih h R a0 a1 a2 a3 => ?_)
  have R0 := R.1
  refine g_Spread_survey_2 ⟨fun hc => H h a2 (fun v v0 v1 => a3 v v0 (by omega)), fun hc => ?_⟩
  refine am_lifti (Nat.le_of_ble_eq_true rfl) (S_neighboursOf O R a0 (by omega) (fun r hr => ⟨by omega, ?_⟩))
  have R1 : LR (am_up h 45 x1 r) N := LR_of (up_ne (by decide)) (up_ne (by decide)) (up_ne (by decide)) (up_ne (by decide)) (up_ne (by decide)) R
  refine am_lifti (Nat.le_of_ble_eq_true rfl) (S_folkOf O R1 ⟨by omega, ih (by omega) _ ?_ (by omega) (by omega) (fun p h1 h2 => ?_) (fun v v0 v1 => ?_)⟩)
  · exact LR_of (up_ne (by decide)) (up_ne (by decide)) (up_ne (by decide)) (up_ne (by decide)) (up_ne (by decide)) R1
  · rw [up_ne h2, up_ne h1]; exact a2 p h1 h2
  · rw [up_same, up_ne (by decide), up_same]
    by_cases q : v = x1
    · subst q
      rw [if_pos rfl, if_pos rfl]; exact ⟨hr, rfl⟩
    · rw [if_neg q, if_neg q, up_ne (by decide)]; exact a3 v v0 (by omega)
theorem S_survey {h : am_H} {N : Int → Int} {P : am_H → Prop} (O : OL N) (R : LR h N) (H : ∀ h1, (∀ p, p ≠ 45 → p ≠ 46 → h1 p = h p) → SV h1 N → P h1) : ∃ h_, am_cd 4 181 [.inr (.inr 44)] h none h_ ∧ P h_ :=
  e_Spread_survey (L_survey O H 0 h R (by omega) O.1.1 (fun _ _ _ => rfl) (fun v _ _ => by omega))
theorem wi_eq {N : Int → Int} {s v r : Int} (O : OL N) (B : nb N v r) : fo N (am_and r s) (N 0) = wi N s v ∧ fo N r (N 0) = wi N s v + wo N s v := by
  have hN := O.1
  constructor
  · unfold fo wi
    refine su_congr (fun u u0 u1 => ?_)
    have := B.2 u u0 (by omega)
    have e : tb (am_and r s) u ↔ 0 < N (46 + 12 * v + u) ∧ tb s u := by
      rw [tb_and u0 (by omega), this]
      constructor <;> (intro q; exact ⟨by omega, q.2⟩)
    by_cases k : 0 < N (46 + 12 * v + u) ∧ tb s u
    · rw [if_pos k, if_pos (e.mpr k)]
    · rw [if_neg k, if_neg (fun y => k (e.mp y))]
  · unfold fo wi wo
    rw [← su_add]
    refine su_congr (fun u u0 u1 => ?_)
    have e : tb r u ↔ 0 < N (46 + 12 * v + u) := by rw [B.2 u u0 (by omega)]; omega
    by_cases k : 0 < N (46 + 12 * v + u)
    · rw [if_pos (e.mpr k)]
      by_cases q : tb s u
      · rw [if_pos ⟨k, q⟩, if_neg (fun y => y.2 q)]; omega
      · rw [if_neg (fun y => q y.2), if_pos ⟨k, q⟩]; omega
    · rw [if_neg (fun y => k (e.mp y)), if_neg (fun y => k y.1), if_neg (fun y => k y.1)]; omega
theorem wi_pos {N : Int → Int} {s v r : Int} (O : OL N) (B : nb N v r) : am_and r s ≠ 0 ↔ 0 < wi N s v := by
  have hN := O.1
  constructor
  · intro q
    by_cases k : ∃ u, 0 ≤ u ∧ u < N 0 ∧ 0 < N (46 + 12 * v + u) ∧ tb s u
    · obtain ⟨u, u0, u1, u2, u3⟩ := k
      unfold wi
      have := su_upd (f := fun u => if 0 < N (46 + 12 * v + u) ∧ tb s u then N (12 + 3 * u) else 0) (g := fun x => if x = u then 0 else if 0 < N (46 + 12 * v + x) ∧ tb s x then N (12 + 3 * x) else 0) (n := N 0) u0 u1 (fun x _ _ q => by simp [q])
      have z := (su_bd (f := fun x => if x = u then 0 else if 0 < N (46 + 12 * v + x) ∧ tb s x then N (12 + 3 * x) else 0) (B := 999) (n := N 0) (by omega) hN.1 (fun x x0 x1 => by have := (O.2.1 x x0 x1).2.2; split; omega; split <;> omega)).1
      have b := (O.2.1 u u0 u1).2.2
      rw [if_pos ⟨u2, u3⟩, if_pos rfl] at this
      omega
    · exfalso
      apply q
      rw [and_zero]
      intro u u0 u1 y
      have := (B.2 u u0 u1).mp y.1
      exact k ⟨u, u0, this.1, this.2, y.2⟩
  · intro q e
    rw [and_zero] at e
    have : wi N s v = 0 := by
      unfold wi
      rw [su_congr (g := fun _ => 0) (fun u u0 u1 => if_neg (fun y => e u u0 (by omega) ⟨(B.2 u u0 (by omega)).mpr ⟨u1, y.1⟩, y.2⟩))]
      exact su_ind (q := fun _ t => t = 0) rfl (fun x t _ e => by omega) hN.1
    omega
theorem L_takers {h : am_H} {N : Int → Int} {s : Int} {P : Int → am_H → Prop} (O : OL N) (R : LR h N) (V : SV h N) (H : ∀ r, tk N s (am_or s r) → P r h) : ∀ x3 x2, 0 ≤ x3 → x3 ≤ N 0 → (∀ u, 0 ≤ u → u < 32 → (tb x2 u ↔ u < x3 ∧ ¬ tb s u ∧ tkc N s u)) → am_x (am_cd 1) 101 (am_qi P) 0 4 [some (.inr (.inr 44)), some (.inl s), some (.inl x2), some (.inl x3), none] [] h := by
  have hN := O.1
  have R0 := R.1
  refine upto (N 0) (fun x3 ih x2 a0 a1 a3 => ?_)
  refine g_Spread_takers_4 ⟨fun hc => ?_, fun hc => ?_⟩
  · refine H _ ⟨ok_or _ _, fun v v0 v1 => ?_⟩
    rw [tb_or v0 v1, a3 v v0 v1]
    constructor
    · intro q
      rcases q with q | q
      · exact .inl q
      · exact .inr q.2.2
    · intro q
      by_cases k : tb s v
      · exact .inl k
      · rcases q with q | q
        · exact absurd q k
        · exact .inr ⟨by have := q.1; omega, k, q⟩
  · obtain ⟨B, F⟩ := V x3 a0 (by omega)
    have w := wi_eq (s := s) O B
    have wp := wi_pos (s := s) O B
    have fb := fo_bd (s := am_and (h 45 x3) s) O hN.1 (Int.le_refl _)
    have no : ¬ tkc N s x3 → ∀ u, 0 ≤ u → u < 32 → (tb x2 u ↔ u < x3 + 1 ∧ ¬ tb s u ∧ tkc N s u) := by
      intro k u u0 u1
      rw [a3 u u0 u1]
      by_cases q : u = x3
      · subst q; exact ⟨fun y => by omega, fun y => absurd y.2.2 k⟩
      · exact ⟨fun y => ⟨by omega, y.2⟩, fun y => ⟨by omega, y.2⟩⟩
    refine ⟨by omega, fun hb => ⟨by omega, ih (by omega) _ (by omega) (by omega) (fun u u0 u1 => ?_)⟩, fun hb => ⟨fun hd => ⟨by omega, ih (by omega) _ (by omega) (by omega) (no (fun k => wp.mpr k.2.1 hd))⟩, fun hd => ?_⟩⟩
    · rw [a3 u u0 u1]
      by_cases q : u = x3
      · subst q; exact ⟨fun y => by omega, fun y => absurd hb y.2.1⟩
      · exact ⟨fun y => ⟨by omega, y.2⟩, fun y => ⟨by omega, y.2⟩⟩
    · refine am_lifti (Nat.le_of_ble_eq_true rfl) (S_folkOf O R ⟨by omega, fun he => ⟨by omega, ih (by omega) _ (by omega) (by omega) (no (fun k => ?_))⟩, fun he => ⟨by omega, ih (by omega) _ (by omega) (by omega) (fun u u0 u1 => ?_)⟩⟩)
      · have := k.2.2; omega
      · rw [tb_add u0 u1 a0 (by omega), a3 u u0 u1]
        by_cases q : u = x3
        · subst q
          exact ⟨fun _ => ⟨by omega, fun z => z hb, ⟨by omega, wp.mp hd, by omega⟩⟩, fun _ => .inr rfl⟩
        · exact ⟨fun y => by rcases y with y | y; exact ⟨by omega, y.2⟩; exact absurd y q, fun y => .inl ⟨by omega, y.2⟩⟩
theorem S_takers {h : am_H} {N : Int → Int} {s : Int} {P : Int → am_H → Prop} (O : OL N) (R : LR h N) (V : SV h N) (H : ∀ r, tk N s (am_or s r) → P r h) : ∃ a_ h_, am_cd 2 101 [.inr (.inr 44), .inl s] h (some (.inl a_)) h_ ∧ P a_ h_ :=
  e_Spread_takers (L_takers O R V H 0 0 (by omega) O.1.1 (fun u u0 u1 => ⟨fun q => absurd q tb_zero, fun q => by omega⟩))
theorem L_after {h : am_H} {N : Int → Int} {n : Int} {P : Int → am_H → Prop} (O : OL N) (R : LR h N) (V : SV h N) (n1 : n ≤ 30) : ∀ x4 x3, 0 ≤ x4 → (∀ r, itr N (n - x4).toNat x3 r → P r h) → am_x (am_cd 2) 148 (am_qi P) 0 5 [some (.inr (.inr 44)), none, some (.inl n), some (.inl x3), some (.inl x4), none] [] h := by
  refine upto n (fun x4 ih x3 a0 H => ?_)
  refine g_Spread_after_5 ⟨fun hc => H _ (by rw [show (n - x4).toNat = 0 by omega]; rfl), fun hc => ?_⟩
  have e : (n - x4).toNat = (n - (x4 + 1)).toNat + 1 := by omega
  refine am_lifti (Nat.le_of_ble_eq_true rfl) (S_takers O R V (fun r hr => ⟨fun hd => ⟨by omega, ih hc _ (by omega) (fun r' hr' => H _ (by rw [e]; exact ⟨_, hr, hr'⟩))⟩, fun hd => H _ ?_⟩))
  rw [hd] at hr
  exact itr_fix hr _
theorem S_after {h : am_H} {N : Int → Int} {s n : Int} {P : Int → am_H → Prop} (O : OL N) (R : LR h N) (V : SV h N) (n1 : n ≤ 30) (H : ∀ r, itr N n.toNat s r → P r h) : ∃ a_ h_, am_cd 3 148 [.inr (.inr 44), .inl s, .inl n] h (some (.inl a_)) h_ ∧ P a_ h_ :=
  e_Spread_after (L_after O R V n1 0 s (by omega) (by simpa using H))
/-! the reference -/
theorem L_Mspreads35 {h : am_H} {N : Int → Int} {s x2 x3 : Int} {P : Int → am_H → Prop} (O : OL N) (eN : h 57 = N) (x30 : 0 ≤ x3) (x31 : x3 < N 0) (H1 : tkc N s x3 → am_x (am_cd 1) 134 (am_qi P) 0 4 [some (.inr (.inr 56)), some (.inl s), some (.inl (am_or x2 (am_shl 1 x3))), some (.inl (x3 + 1)), none, none, none] [] h) (H2 : ¬ tkc N s x3 → am_x (am_cd 1) 134 (am_qi P) 0 4 [some (.inr (.inr 56)), some (.inl s), some (.inl (am_or x2 0)), some (.inl (x3 + 1)), none, none, none] [] h) : ∀ x6 x4 x5, 0 ≤ x6 → x6 ≤ N 0 → x4 = su (fun u => if 0 < N (46 + 12 * x3 + u) ∧ tb s u then N (12 + 3 * u) else 0) x6 → x5 = su (fun u => if 0 < N (46 + 12 * x3 + u) ∧ ¬ tb s u then N (12 + 3 * u) else 0) x6 → am_x (am_cd 1) 134 (am_qi P) 0 35 [some (.inr (.inr 56)), some (.inl s), some (.inl x2), some (.inl x3), some (.inl x4), some (.inl x5), some (.inl x6)] [] h := by
  have hN := O.1
  subst eN
  refine upto (h 57 0) (fun x6 ih x4 x5 a0 a1 a2 a3 => ?_)
  have b4 := su_bd (f := fun u => if 0 < h 57 (46 + 12 * x3 + u) ∧ tb s u then h 57 (12 + 3 * u) else 0) (B := 999) (n := x6) (by omega) a0 (fun x x0 x1 => by have := (O.2.1 x x0 (by omega)).2.2; split <;> omega)
  have b5 := su_bd (f := fun u => if 0 < h 57 (46 + 12 * x3 + u) ∧ ¬ tb s u then h 57 (12 + 3 * u) else 0) (B := 999) (n := x6) (by omega) a0 (fun x x0 x1 => by have := (O.2.1 x x0 (by omega)).2.2; split <;> omega)
  refine g_Mo_spreads_35 ⟨fun hc => ?_, fun hc => ?_⟩
  · have e : x6 = h 57 0 := by omega
    subst e
    refine ⟨fun hd => ⟨by omega, H2 (fun k => ?_)⟩, fun hd => ⟨fun he => ⟨by omega, H2 (fun k => ?_)⟩, fun he => ⟨by omega, H1 ⟨x31, ?_, ?_⟩⟩⟩⟩
    · have := k.2.1; unfold wi at this; omega
    · have := k.2.2; unfold wi wo at this; omega
    · unfold wi; omega
    · unfold wi wo; omega
  · have o := O.2.2 x3 x6 x30 (by omega) a0 (by omega)
    have f := (O.2.1 x6 a0 hc).2.2
    have sb := (shr1 (x := s) a0 (show x6 < 32 by omega)).1
    refine ⟨⟨by omega, by omega, by omega, by omega⟩, fun hd => ⟨fun he => ⟨by omega, ⟨by omega, by omega, by omega, by omega⟩, ⟨by omega, by omega⟩, ih hc _ _ (by omega) (by omega) ?_ ?_⟩, fun he => ⟨⟨by omega, by omega, by omega, by omega⟩, ⟨by omega, by omega, by omega⟩, ih hc _ _ (by omega) (by omega) ?_ ?_⟩⟩, fun hd => ⟨by omega, ih hc _ _ (by omega) (by omega) ?_ ?_⟩⟩
    · rw [su_1 a0, if_neg (fun y => he (sb.mpr y.2))]; omega
    · rw [su_1 a0, if_pos ⟨by omega, fun y => he (sb.mpr y)⟩]; omega
    · rw [su_1 a0, if_pos ⟨by omega, sb.mp he⟩]; omega
    · rw [su_1 a0, if_neg (fun y => y.2 (sb.mp he))]; omega
    · rw [su_1 a0, if_neg (fun y => by omega)]; omega
    · rw [su_1 a0, if_neg (fun y => by omega)]; omega
theorem L_Mspreads4 {h : am_H} {N : Int → Int} {s : Int} {P : Int → am_H → Prop} (O : OL N) (eN : h 57 = N) (H : ∀ r, tk N s r → P r h) : ∀ x3 x2, 0 ≤ x3 → x3 ≤ N 0 → am_ok x2 → (∀ u, 0 ≤ u → u < 32 → (tb x2 u ↔ tb s u ∨ (u < x3 ∧ tkc N s u))) → am_x (am_cd 1) 134 (am_qi P) 0 4 [some (.inr (.inr 56)), some (.inl s), some (.inl x2), some (.inl x3), none, none, none] [] h := by
  have hN := O.1
  have e0 : h 57 0 = N 0 := by rw [eN]
  refine upto (N 0) (fun x3 ih x2 a0 a1 a2 a3 => ?_)
  have sb := (shr1 (x := s) a0 (show x3 < 32 by omega)).1
  have no : (¬ tkc N s x3 ∨ tb s x3) → ∀ u, 0 ≤ u → u < 32 → (tb x2 u ↔ tb s u ∨ (u < x3 + 1 ∧ tkc N s u)) := by
    intro k u u0 u1
    rw [a3 u u0 u1]
    by_cases q : u = x3
    · subst q
      rcases k with k | k
      · exact ⟨fun y => by rcases y with y | y; exact .inl y; omega, fun y => by rcases y with y | y; exact .inl y; exact absurd y.2 k⟩
      · exact ⟨fun _ => .inl k, fun _ => .inl k⟩
    · exact ⟨fun y => by rcases y with y | y; exact .inl y; exact .inr ⟨by omega, y.2⟩, fun y => by rcases y with y | y; exact .inl y; exact .inr ⟨by omega, y.2⟩⟩
  refine g_Mo_spreads_4 ⟨fun hc => H _ ⟨a2, fun v v0 v1 => ?_⟩, fun hc => ⟨fun hd => ?_, fun hd => ⟨by omega, ih (by omega) _ (by omega) (by omega) a2 (no (.inr (sb.mp hd)))⟩⟩⟩
  · rw [a3 v v0 v1]
    exact ⟨fun y => by rcases y with y | y; exact .inl y; exact .inr y.2, fun y => by rcases y with y | y; exact .inl y; exact .inr ⟨by have := y.1; omega, y⟩⟩
  · refine L_Mspreads35 O eN a0 (by omega) (fun k => ih (by omega) _ (by omega) (by omega) (ok_or _ _) (fun u u0 u1 => ?_)) (fun k => ih (by omega) _ (by omega) (by omega) (ok_or _ _) (fun u u0 u1 => ?_)) 0 0 0 (by omega) hN.1 (su_0 (by omega)).symm (su_0 (by omega)).symm
    · rw [tb_add u0 u1 a0 (by omega), a3 u u0 u1]
      by_cases q : u = x3
      · subst q; exact ⟨fun _ => .inr ⟨by omega, k⟩, fun _ => .inr rfl⟩
      · exact ⟨fun y => by rcases y with (y | y) | y; exact .inl y; exact .inr ⟨by omega, y.2⟩; exact absurd y q, fun y => by rcases y with y | y; exact .inl (.inl y); exact .inl (.inr ⟨by omega, y.2⟩)⟩
    · rw [tb_or u0 u1, ← no (.inl k) u u0 u1]
      exact ⟨fun y => by rcases y with y | y; exact y; exact absurd y tb_zero, .inl⟩
theorem S_Mspreads {h : am_H} {N : Int → Int} {s : Int} {P : Int → am_H → Prop} (O : OL N) (eN : h 57 = N) (hs : am_ok s) (H : ∀ r, tk N s r → P r h) : ∃ a_ h_, am_cd 2 134 [.inr (.inr 56), .inl s] h (some (.inl a_)) h_ ∧ P a_ h_ :=
  e_Mo_spreads (L_Mspreads4 O eN H 0 s (by omega) O.1.1 hs (fun u u0 u1 => ⟨.inl, fun y => by rcases y with y | y; exact y; omega⟩))
theorem L_MspreadTo {h : am_H} {N : Int → Int} {n : Int} {P : Int → am_H → Prop} (O : OL N) (eN : h 57 = N) (n1 : n ≤ 30) : ∀ x4 x3, 0 ≤ x4 → am_ok x3 → (∀ r, itr N (n - x4).toNat x3 r → P r h) → am_x (am_cd 2) 171 (am_qi P) 0 5 [some (.inr (.inr 56)), none, some (.inl n), some (.inl x3), some (.inl x4)] [] h := by
  refine upto n (fun x4 ih x3 a0 a1 H => ?_)
  refine g_Mo_spreadTo_5 ⟨fun hc => H _ (by rw [show (n - x4).toNat = 0 by omega]; rfl), fun hc => ?_⟩
  have e : (n - x4).toNat = (n - (x4 + 1)).toNat + 1 := by omega
  exact am_lifti (Nat.le_of_ble_eq_true rfl) (S_Mspreads O eN a1 (fun r hr => ⟨by omega, ih hc _ (by omega) hr.1 (fun r' hr' => H _ (by rw [e]; exact ⟨_, hr, hr'⟩))⟩))
theorem S_MspreadTo {h : am_H} {N : Int → Int} {s n : Int} {P : Int → am_H → Prop} (O : OL N) (eN : h 57 = N) (hs : am_ok s) (n1 : n ≤ 30) (H : ∀ r, itr N n.toNat s r → P r h) : ∃ a_ h_, am_cd 3 171 [.inr (.inr 56), .inl s, .inl n] h (some (.inl a_)) h_ ∧ P a_ h_ :=
  e_Mo_spreadTo (L_MspreadTo O eN n1 0 s (by omega) hs (by simpa using H))
/-! seeds -/
def sdc (N : Int → Int) (n k s : Int) : Prop := cn s 12 = k ∧ itr N n.toNat s (am_shl 1 (N 0) - 1)
/-- the first of the sets, by how many and by number; -1 for none -/
def sds (N : Int → Int) (n r : Int) : Prop := (r = -1 ∧ ∀ k s, 0 ≤ k → k < 4 → 0 ≤ s → s ≤ am_shl 1 (N 0) - 1 → ¬ sdc N n k s) ∨ (0 ≤ r ∧ r ≤ am_shl 1 (N 0) - 1 ∧ ∃ k, 0 ≤ k ∧ k < 4 ∧ sdc N n k r ∧ (∀ k' s, 0 ≤ k' → k' < k → 0 ≤ s → s ≤ am_shl 1 (N 0) - 1 → ¬ sdc N n k' s) ∧ ∀ s, 0 ≤ s → s < r → ¬ sdc N n k s)
theorem sds_one {N : Int → Int} {n r r' : Int} (A : sds N n r) (B : sds N n r') : r = r' := by
  rcases A with ⟨a1, a2⟩ | ⟨a1, a2, k, a3, a4, a5, a6, a7⟩ <;> rcases B with ⟨b1, b2⟩ | ⟨b1, b2, j, b3, b4, b5, b6, b7⟩
  · omega
  · exact absurd b5 (a2 j r' b3 b4 b1 b2)
  · exact absurd a5 (b2 k r a3 a4 a1 a2)
  · rcases (show k < j ∨ j < k ∨ k = j by omega) with q | q | q
    · exact absurd a5 (b6 k r a3 q a1 a2)
    · exact absurd b5 (a6 j r' b3 q b1 b2)
    · subst q
      rcases (show r < r' ∨ r' < r ∨ r = r' by omega) with q | q | q
      · exact absurd a5 (b7 r a1 q)
      · exact absurd b5 (a7 r' b1 q)
      · exact q
theorem L_fewest22 {h : am_H} {N : Int → Int} {n x3 : Int} {P : Int → am_H → Prop} (O : OL N) (R : LR h N) (V : SV h N) (n1 : n ≤ 30) (x30 : 0 ≤ x3) (x31 : x3 ≤ 3) (J : ∀ k s, 0 ≤ k → k < x3 → 0 ≤ s → s ≤ am_shl 1 (N 0) - 1 → ¬ sdc N n k s) (H1 : (∀ k s, 0 ≤ k → k < x3 + 1 → 0 ≤ s → s ≤ am_shl 1 (N 0) - 1 → ¬ sdc N n k s) → am_x (am_cd 4) 206 (am_qi P) 0 14 [some (.inr (.inr 44)), some (.inl n), some (.inl (am_shl 1 (N 0) - 1)), some (.inl (x3 + 1)), none] [] h) (H2 : ∀ r, sds N n r → P r h) : ∀ x4, 0 ≤ x4 → (∀ s, 0 ≤ s → s < x4 → ¬ sdc N n x3 s) → am_x (am_cd 4) 206 (am_qi P) 0 22 [some (.inr (.inr 44)), some (.inl n), some (.inl (am_shl 1 (N 0) - 1)), some (.inl x3), some (.inl x4)] [] h := by
  have sk := shl_ok O.1.1 O.1.2
  refine upto (am_shl 1 (N 0)) (fun x4 ih a0 a1 => ?_)
  refine g_Spread_fewest_22 ⟨fun hc => ⟨by omega, H1 (fun k s k0 k1 s0 s1 => ?_)⟩, fun hc => ?_⟩
  · rcases (show k < x3 ∨ k = x3 by omega) with q | q
    · exact J k s k0 q s0 s1
    · subst q; exact a1 s s0 (by omega)
  · have nx : ¬ sdc N n x3 x4 → ∀ s, 0 ≤ s → s < x4 + 1 → ¬ sdc N n x3 s := by
      intro k s s0 s1
      rcases (show s < x4 ∨ s = x4 by omega) with q | q
      · exact a1 s s0 q
      · subst q; exact k
    refine am_lifti (Nat.le_of_ble_eq_true rfl) (S_bitCount a0 (by omega) ⟨fun hd => ⟨by omega, ih (by omega) (by omega) (nx (fun k => hd k.1))⟩, fun hd => ?_⟩)
    refine am_lifti (Nat.le_of_ble_eq_true rfl) (S_after O R V n1 (fun r hr => ⟨fun he => ⟨by omega, ih (by omega) (by omega) (nx (fun k => he (itr_one hr k.2)))⟩, fun he => H2 _ (.inr ⟨a0, hc, x3, x30, by omega, ⟨hd, ?_⟩, J, a1⟩)⟩))
    rw [← he]; exact hr
theorem L_fewest14 {h : am_H} {N : Int → Int} {n : Int} {P : Int → am_H → Prop} (O : OL N) (R : LR h N) (V : SV h N) (n1 : n ≤ 30) (H2 : ∀ r, sds N n r → P r h) : ∀ x3, 0 ≤ x3 → x3 ≤ 4 → (∀ k s, 0 ≤ k → k < x3 → 0 ≤ s → s ≤ am_shl 1 (N 0) - 1 → ¬ sdc N n k s) → am_x (am_cd 4) 206 (am_qi P) 0 14 [some (.inr (.inr 44)), some (.inl n), some (.inl (am_shl 1 (N 0) - 1)), some (.inl x3), none] [] h := by
  refine upto 4 (fun x3 ih a0 a1 J => ?_)
  refine g_Spread_fewest_14 ⟨fun hc => H2 _ (.inl ⟨rfl, fun k s k0 k1 => J k s k0 (by omega)⟩), fun hc => ?_⟩
  exact L_fewest22 O R V n1 a0 hc J (fun J' => ih (by omega) (by omega) (by omega) J') H2 0 (by omega) (fun s _ _ => by omega)
theorem S_fewest {h : am_H} {N : Int → Int} {n : Int} {P : Int → am_H → Prop} (O : OL N) (R : LR h N) (n1 : n ≤ 30) (H : ∀ h1 r, (∀ p, p ≠ 45 → p ≠ 46 → h1 p = h p) → sds N n r → P r h1) : ∃ a_ h_, am_cd 5 206 [.inr (.inr 44), .inl n] h (some (.inl a_)) h_ ∧ P a_ h_ := by
  have sk := shl_ok O.1.1 O.1.2
  refine e_Spread_fewest (am_liftv (Nat.le_of_ble_eq_true rfl) (S_survey O R (fun h1 f V => ?_)))
  have R1 : LR h1 N := LR_of (f _ (by decide) (by decide)) (f _ (by decide) (by decide)) (f _ (by decide) (by decide)) (f _ (by decide) (by decide)) (f _ (by decide) (by decide)) R
  rw [R1.1]
  exact ⟨by omega, L_fewest14 O R1 V n1 (fun r hr => H h1 r f hr) 0 (by omega) (by omega) (fun k s _ _ => by omega)⟩
theorem L_Mseeds38 {h : am_H} {N : Int → Int} {n x3 : Int} {P : Int → am_H → Prop} (O : OL N) (eN : h 57 = N) (n1 : n ≤ 30) (x30 : 0 ≤ x3) (x31 : x3 ≤ 3) (J : ∀ k s, 0 ≤ k → k < x3 → 0 ≤ s → s ≤ am_shl 1 (N 0) - 1 → ¬ sdc N n k s) (H1 : (∀ k s, 0 ≤ k → k < x3 + 1 → 0 ≤ s → s ≤ am_shl 1 (N 0) - 1 → ¬ sdc N n k s) → am_x (am_cd 3) 201 (am_qi P) 0 30 [some (.inr (.inr 56)), some (.inl n), some (.inl (am_shl 1 (N 0) - 1)), some (.inl (x3 + 1)), none] [] h) (H2 : ∀ r, sds N n r → 0 ≤ r → P r h) : ∀ x4, 0 ≤ x4 → (∀ s, 0 ≤ s → s < x4 → ¬ sdc N n x3 s) → am_x (am_cd 3) 201 (am_qi P) 0 38 [some (.inr (.inr 56)), some (.inl n), some (.inl (am_shl 1 (N 0) - 1)), some (.inl x3), some (.inl x4)] [] h := by
  have sk := shl_ok O.1.1 O.1.2
  refine upto (am_shl 1 (N 0)) (fun x4 ih a0 a1 => ?_)
  refine g_Mo_seeds_38 ⟨fun hc => ⟨by omega, H1 (fun k s k0 k1 s0 s1 => ?_)⟩, fun hc => ?_⟩
  · rcases (show k < x3 ∨ k = x3 by omega) with q | q
    · exact J k s k0 q s0 s1
    · subst q; exact a1 s s0 (by omega)
  · have nx : ¬ sdc N n x3 x4 → ∀ s, 0 ≤ s → s < x4 + 1 → ¬ sdc N n x3 s := by
      intro k s s0 s1
      rcases (show s < x4 ∨ s = x4 by omega) with q | q
      · exact a1 s s0 q
      · subst q; exact k
    refine am_lifti (Nat.le_of_ble_eq_true rfl) (S_McountOf a0 (by omega) ⟨fun hd => ⟨by omega, ih (by omega) (by omega) (nx (fun k => hd k.1))⟩, fun hd => ?_⟩)
    refine am_lifti (Nat.le_of_ble_eq_true rfl) (S_MspreadTo O eN ⟨by omega, by omega⟩ n1 (fun r hr => ⟨fun he => ⟨by omega, ih (by omega) (by omega) (nx (fun k => he (itr_one hr k.2)))⟩, fun he => H2 _ (.inr ⟨a0, hc, x3, x30, by omega, ⟨hd, ?_⟩, J, a1⟩) a0⟩))
    rw [← he]; exact hr
theorem L_Mseeds30 {h : am_H} {N : Int → Int} {n : Int} {P : Int → am_H → Prop} (O : OL N) (eN : h 57 = N) (n1 : n ≤ 30) (hf : am_ok (h 56 3 + 1)) (H1 : sds N n (-1) → P (-100006) (am_up h 56 3 (h 56 3 + 1))) (H2 : ∀ r, sds N n r → 0 ≤ r → P r h) : ∀ x3, 0 ≤ x3 → x3 ≤ 4 → (∀ k s, 0 ≤ k → k < x3 → 0 ≤ s → s ≤ am_shl 1 (N 0) - 1 → ¬ sdc N n k s) → am_x (am_cd 3) 201 (am_qi P) 0 30 [some (.inr (.inr 56)), some (.inl n), some (.inl (am_shl 1 (N 0) - 1)), some (.inl x3), none] [] h := by
  refine upto 4 (fun x3 ih a0 a1 J => ?_)
  refine g_Mo_seeds_30 ⟨fun hc => ⟨hf, H1 (.inl ⟨rfl, fun k s k0 k1 => J k s k0 (by omega)⟩)⟩, fun hc => ?_⟩
  exact L_Mseeds38 O eN n1 a0 (by omega) J (fun J' => ih (by omega) (by omega) (by omega) J') H2 0 (by omega) (fun s _ _ => by omega)
