/-! one instruction has one state behind it, or one answer -/
def am_one (F : (Nat → Nat → am_L → List am_V → am_H → Prop) → am_Q → Prop) (K : Nat → Nat → am_L → List am_V → am_H → Prop) (Q : am_Q) : Prop :=
  (∃ b pc ls st h, K b pc ls st h ∧ ∀ K' Q', F K' Q' ↔ K' b pc ls st h) ∨ ∃ r h, Q r h ∧ ∀ K' Q', F K' Q' ↔ Q' r h
theorem one_k {K : Nat → Nat → am_L → List am_V → am_H → Prop} {Q : am_Q} {b pc : Nat} {ls : am_L} {st : List am_V} {h : am_H} (H : K b pc ls st h) : am_one (fun K' _ => K' b pc ls st h) K Q := Or.inl ⟨b, pc, ls, st, h, H, fun _ _ => Iff.rfl⟩
theorem one_q {K : Nat → Nat → am_L → List am_V → am_H → Prop} {Q : am_Q} {r : Option am_V} {h : am_H} (H : Q r h) : am_one (fun _ Q' => Q' r h) K Q := Or.inr ⟨r, h, H, fun _ _ => Iff.rfl⟩
theorem one_and {P : Prop} {F : (Nat → Nat → am_L → List am_V → am_H → Prop) → am_Q → Prop} {K : Nat → Nat → am_L → List am_V → am_H → Prop} {Q : am_Q} (hp : P) (H : am_one F K Q) : am_one (fun K' Q' => P ∧ F K' Q') K Q := by
  rcases H with ⟨b, pc, ls, st, h, h1, h2⟩ | ⟨r, h, h1, h2⟩
  · exact Or.inl ⟨b, pc, ls, st, h, h1, fun K' Q' => ⟨fun q => (h2 K' Q').mp q.2, fun q => ⟨hp, (h2 K' Q').mpr q⟩⟩⟩
  · exact Or.inr ⟨r, h, h1, fun K' Q' => ⟨fun q => (h2 K' Q').mp q.2, fun q => ⟨hp, (h2 K' Q').mpr q⟩⟩⟩
theorem one_eq {F G : (Nat → Nat → am_L → List am_V → am_H → Prop) → am_Q → Prop} {K : Nat → Nat → am_L → List am_V → am_H → Prop} {Q : am_Q} (e : ∀ K' Q', F K' Q' = G K' Q') (H : am_one G K Q) : am_one F K Q := by
  have : F = G := funext fun K' => funext fun Q' => e K' Q'
  rw [this]; exact H
theorem one_ite {c : Prop} [Decidable c] {F G : (Nat → Nat → am_L → List am_V → am_H → Prop) → am_Q → Prop} {K : Nat → Nat → am_L → List am_V → am_H → Prop} {Q : am_Q} (h1 : c → am_one F K Q) (h2 : ¬ c → am_one G K Q) : am_one (fun K' Q' => if c then F K' Q' else G K' Q') K Q := by
  by_cases hc : c
  · exact one_eq (fun K' Q' => if_pos hc) (h1 hc)
  · exact one_eq (fun K' Q' => if_neg hc) (h2 hc)
def am_det (C : Nat → List am_V → am_H → Option am_V → am_H → Prop) : Prop := ∀ j vs h r1 h1 r2 h2, C j vs h r1 h1 → C j vs h r2 h2 → r1 = r2 ∧ h1 = h2
theorem one_call {C : Nat → List am_V → am_H → Option am_V → am_H → Prop} (hC : am_det C) {K : Nat → Nat → am_L → List am_V → am_H → Prop} {Q : am_Q} {b nx t : Nat} {ls : am_L} {h : am_H} {args st : List am_V} (H : am_call C K b nx t ls h args st) : am_one (fun K' _ => am_call C K' b nx t ls h args st) K Q := by
  unfold am_call at H ⊢
  refine one_and H.1 ?_
  have key : ∀ b' : Nat, (∃ r h1, C t args h r h1 ∧ K b' nx ls (r.toList ++ st) h1) → am_one (fun K' _ => ∃ r h1, C t args h r h1 ∧ K' b' nx ls (r.toList ++ st) h1) K Q := by
    rintro b' ⟨r, h1, q1, q2⟩
    refine Or.inl ⟨b', nx, ls, r.toList ++ st, h1, q2, fun K' Q' => ⟨?_, fun q => ⟨r, h1, q1, q⟩⟩⟩
    rintro ⟨r', h1', p1, p2⟩
    obtain ⟨rfl, rfl⟩ := hC _ _ _ _ _ _ _ q1 p1
    exact p2
  obtain ⟨-, H⟩ := H
  by_cases hc : t = am_BD
  · rw [if_pos hc] at H
    refine one_eq (fun K' Q' => if_pos hc) ?_
    cases b with
    | zero => exact H.elim
    | succ b' => exact key b' H
  · rw [if_neg hc] at H
    exact one_eq (fun K' Q' => if_neg hc) (key b H)
theorem one_if {c : Jvm.ClassFile.Cond} {x y : Int} {F G : (Nat → Nat → am_L → List am_V → am_H → Prop) → am_Q → Prop} {K : Nat → Nat → am_L → List am_V → am_H → Prop} {Q : am_Q} (H : am_if c x y (F K Q) (G K Q)) (h1 : F K Q → am_one F K Q) (h2 : G K Q → am_one G K Q) : am_one (fun K' Q' => am_if c x y (F K' Q') (G K' Q')) K Q := by
  cases c <;> (unfold am_if at H ⊢; dsimp only at H ⊢; refine one_ite (fun hc => ?_) (fun hc => ?_)) <;> first | (rw [if_pos hc] at H; first | exact h1 H | exact h2 H) | (rw [if_neg hc] at H; first | exact h1 H | exact h2 H)
theorem one_sw {K : Nat → Nat → am_L → List am_V → am_H → Prop} {Q : am_Q} {b : Nat} {ls : am_L} {st : List am_V} {h : am_H} {x : Int} {d : Nat} : ∀ (ts : List Nat) (lo : Int), am_sw (fun t => K b t ls st h) x d lo ts → am_one (fun K' _ => am_sw (fun t => K' b t ls st h) x d lo ts) K Q
  | [], lo, H => one_k H
  | t :: ts, lo, H => by
    unfold am_sw at H ⊢
    refine one_ite (fun hc => ?_) (fun hc => ?_)
    · rw [if_pos hc] at H; exact one_k H
    · rw [if_neg hc] at H; exact one_sw ts (lo + 1) H
theorem one_lw {K : Nat → Nat → am_L → List am_V → am_H → Prop} {Q : am_Q} {b : Nat} {ls : am_L} {st : List am_V} {h : am_H} {x : Int} {d : Nat} : ∀ (ts : List (Int × Nat)), am_lw (fun t => K b t ls st h) x d ts → am_one (fun K' _ => am_lw (fun t => K' b t ls st h) x d ts) K Q
  | [], H => one_k H
  | (v, t) :: ts, H => by
    unfold am_lw at H ⊢
    refine one_ite (fun hc => ?_) (fun hc => ?_)
    · rw [if_pos hc] at H; exact one_k H
    · rw [if_neg hc] at H; exact one_lw ts H
set_option maxHeartbeats 4000000 in
theorem am_i_one {C : Nat → List am_V → am_H → Option am_V → am_H → Prop} (hC : am_det C) {K : Nat → Nat → am_L → List am_V → am_H → Prop} {Q : am_Q} {z : Bool} {b pc : Nat} {ls : am_L} {st : List am_V} {h : am_H} {nx t u : Nat} {x : Int} {i : Instr} (H : am_i C K Q z b pc ls st h nx t u x i) : am_one (fun K' Q' => am_i C K' Q' z b pc ls st h nx t u x i) K Q := by
  cases i <;> first
    | exact False.elim H
    | exact one_k H
    | skip
  all_goals unfold am_i at H ⊢
  all_goals dsimp only at H ⊢
  all_goals try (revert H; split <;> intro H)
  all_goals try exact False.elim H
  all_goals try exact one_k H
  all_goals try exact one_q H
  all_goals try exact one_and H.1 (one_k H.2)
  all_goals try exact one_and H.1 (one_q H.2)
  all_goals try exact one_and H.1 (one_and H.2.1 (one_k H.2.2))
  all_goals try exact one_if H one_k one_k
  all_goals try exact one_sw _ _ H
  all_goals try exact one_lw _ H
  all_goals try exact one_and H.1 (one_call hC H.2)
  all_goals try (revert H; split <;> intro H)
  all_goals try exact False.elim H
  all_goals try exact one_k H
  all_goals try exact one_and H.1 (one_k H.2)
  all_goals try exact one_and H.1 (one_and H.2.1 (one_k H.2.2))
  all_goals try exact one_call hC H
  all_goals try exact H.2.2.elim
  all_goals (revert H; split <;> intro H)
  all_goals first | exact False.elim H | exact one_and H.1 (one_and H.2.1 (one_and H.2.2.1 (one_k H.2.2.2)))
/-- if an instruction holds of K it holds of what K implies -/
theorem am_i_mono {C C' : Nat → List am_V → am_H → Option am_V → am_H → Prop} (hC : am_det C) {K K' : Nat → Nat → am_L → List am_V → am_H → Prop} {Q Q' : am_Q} {z : Bool} {b pc : Nat} {ls : am_L} {st : List am_V} {h : am_H} {nx t u : Nat} {x : Int} {i : Instr} (H : am_i C K Q z b pc ls st h nx t u x i) (hK : ∀ b pc ls st h, K b pc ls st h → K' b pc ls st h) (hQ : ∀ r h, Q r h → Q' r h) : am_i C K' Q' z b pc ls st h nx t u x i := by
  rcases am_i_one hC H with ⟨b1, pc1, ls1, st1, h1, k1, k2⟩ | ⟨r, h1, k1, k2⟩
  · exact (k2 K' Q').mpr (hK _ _ _ _ _ k1)
  · exact (k2 K' Q').mpr (hQ _ _ k1)
theorem am_w_succ {C : Nat → List am_V → am_H → Option am_V → am_H → Prop} {k : Nat} {Q : am_Q} {n b pc : Nat} {ls : am_L} {st : List am_V} {h : am_H} {i : Instr} {nx t u : Nat} {x : Int} (hl : am_look k pc = some (i, nx, t, u, x)) : am_w C k Q (n + 1) b pc ls st h = am_i C (am_w C k Q n) Q (am_zb k) b pc ls st h nx t u x i := by
  rw [am_w, hl]
theorem am_w_look {C : Nat → List am_V → am_H → Option am_V → am_H → Prop} {k : Nat} {Q : am_Q} {n b pc : Nat} {ls : am_L} {st : List am_V} {h : am_H} (H : am_w C k Q (n + 1) b pc ls st h) : ∃ i nx t u x, am_look k pc = some (i, nx, t, u, x) ∧ am_i C (am_w C k Q n) Q (am_zb k) b pc ls st h nx t u x i := by
  rw [am_w] at H
  cases hl : am_look k pc with
  | none => rw [hl] at H; exact H.elim
  | some e =>
    obtain ⟨i, nx, t, u, x⟩ := e
    rw [hl] at H
    exact ⟨i, nx, t, u, x, rfl, H⟩
theorem am_w_mono {C : Nat → List am_V → am_H → Option am_V → am_H → Prop} (hC : am_det C) {k : Nat} {Q Q' : am_Q} (hQ : ∀ r h, Q r h → Q' r h) : ∀ (n m : Nat), n ≤ m → ∀ (b pc : Nat) (ls : am_L) (st : List am_V) (h : am_H), am_w C k Q n b pc ls st h → am_w C k Q' m b pc ls st h
  | 0, _, _, _, _, _, _, _, H => by rw [am_w] at H; exact H.elim
  | n + 1, 0, hm, _, _, _, _, _, _ => by omega
  | n + 1, m + 1, hm, b, pc, ls, st, h, H => by
    obtain ⟨i, nx, t, u, x, hl, hi⟩ := am_w_look H
    rw [am_w_succ hl]
    exact am_i_mono (C' := C) hC hi (fun b pc ls st h q => am_w_mono hC hQ n m (by omega) b pc ls st h q) hQ
theorem am_x_of_i {C : Nat → List am_V → am_H → Option am_V → am_H → Prop} (hC : am_det C) {k : Nat} {Q : am_Q} {b pc : Nat} {ls : am_L} {st : List am_V} {h : am_H} {i : Instr} {nx t u : Nat} {x : Int} (hl : am_look k pc = some (i, nx, t, u, x)) (H : am_i C (am_x C k Q) Q (am_zb k) b pc ls st h nx t u x i) : am_x C k Q b pc ls st h := by
  rcases am_i_one hC H with ⟨b1, pc1, ls1, st1, h1, ⟨n, k1⟩, k2⟩ | ⟨r, h1, k1, k2⟩
  · exact ⟨n + 1, by rw [am_w_succ hl]; exact (k2 _ _).mpr k1⟩
  · exact ⟨1, by rw [am_w_succ hl]; exact (k2 _ _).mpr k1⟩
theorem am_x_of_u {C : Nat → List am_V → am_H → Option am_V → am_H → Prop} (hC : am_det C) {k : Nat} {Q : am_Q} {cuts : List Nat} : ∀ (n b pc : Nat) (ls : am_L) (st : List am_V) (h : am_H), am_u C k Q cuts n b pc ls st h → am_x C k Q b pc ls st h
  | 0, _, _, _, _, _, H => H
  | n + 1, b, pc, ls, st, h, H => by
    rw [am_u] at H
    cases hc : cuts.elem pc with
    | true => rw [hc] at H; rw [am_e] at H <;> first | exact H | (intros; contradiction) | simp
    | false =>
      rw [hc] at H
      cases hl : am_look k pc with
      | none => rw [hl] at H; rw [am_e] at H <;> first | exact H | (intros; contradiction) | simp
      | some e =>
        obtain ⟨i, nx, t, u, x⟩ := e
        rw [hl, am_e] at H
        exact am_x_of_i hC hl (am_i_mono (C' := C) hC H (fun b pc ls st h q => am_x_of_u hC n b pc ls st h q) (fun _ _ q => q))
/-- from a place on: one instruction, then n more, up to the places named -/
theorem am_go {C : Nat → List am_V → am_H → Option am_V → am_H → Prop} (hC : am_det C) {k : Nat} {Q : am_Q} (cuts : List Nat) (n : Nat) {b pc : Nat} {ls : am_L} {st : List am_V} {h : am_H} (H : am_e C k (am_u C k Q cuts n) Q False b pc ls st h false (am_look k pc)) : am_x C k Q b pc ls st h := by
  cases hl : am_look k pc with
  | none => rw [hl] at H; rw [am_e] at H <;> first | exact H.elim | (intros; contradiction) | simp
  | some e =>
    obtain ⟨i, nx, t, u, x⟩ := e
    rw [hl, am_e] at H
    exact am_x_of_i hC hl (am_i_mono (C' := C) hC H (fun b pc ls st h q => am_x_of_u hC n b pc ls st h q) (fun _ _ q => q))
theorem am_w_det {C : Nat → List am_V → am_H → Option am_V → am_H → Prop} (hC : am_det C) {k : Nat} {Q Q' : am_Q} : ∀ (n b pc : Nat) (ls : am_L) (st : List am_V) (h : am_H), am_w C k Q n b pc ls st h → am_w C k Q' n b pc ls st h → ∃ r h', Q r h' ∧ Q' r h'
  | 0, _, _, _, _, _, H, _ => by rw [am_w] at H; exact H.elim
  | n + 1, b, pc, ls, st, h, H, H' => by
    obtain ⟨i, nx, t, u, x, hl, hi⟩ := am_w_look H
    rw [am_w_succ hl] at H'
    rcases am_i_one hC hi with ⟨b1, pc1, ls1, st1, h1, k1, k2⟩ | ⟨r, h1, k1, k2⟩
    · exact am_w_det hC n b1 pc1 ls1 st1 h1 k1 ((k2 _ _).mp H')
    · exact ⟨r, h1, k1, (k2 _ _).mp H'⟩
theorem am_x_det {C : Nat → List am_V → am_H → Option am_V → am_H → Prop} (hC : am_det C) {k : Nat} {Q Q' : am_Q} {b pc : Nat} {ls : am_L} {st : List am_V} {h : am_H} (H : am_x C k Q b pc ls st h) (H' : am_x C k Q' b pc ls st h) : ∃ r h', Q r h' ∧ Q' r h' := by
  obtain ⟨n, H⟩ := H
  obtain ⟨n', H'⟩ := H'
  exact am_w_det hC (max n n') b pc ls st h (am_w_mono hC (fun _ _ q => q) n _ (Nat.le_max_left _ _) _ _ _ _ _ H) (am_w_mono hC (fun _ _ q => q) n' _ (Nat.le_max_right _ _) _ _ _ _ _ H')
theorem am_cd_det : ∀ d, am_det (am_cd d)
  | 0 => fun _ _ _ _ _ _ _ H _ => by rw [am_cd] at H; exact H.elim
  | d + 1 => fun j vs h r1 h1 r2 h2 H H' => by
    rw [am_cd] at H H'
    obtain ⟨r, h', ⟨rfl, rfl⟩, ⟨rfl, rfl⟩⟩ := am_x_det (am_cd_det d) H.2 H'.2
    exact ⟨rfl, rfl⟩
