/-! calls at a greater depth; how a call is used -/
theorem am_i_sub {C C' : Nat → List am_V → am_H → Option am_V → am_H → Prop} (hCC : ∀ j vs h r h1, C j vs h r h1 → C' j vs h r h1) {K : Nat → Nat → am_L → List am_V → am_H → Prop} {Q : am_Q} {z : Bool} {b pc : Nat} {ls : am_L} {st : List am_V} {h : am_H} {nx t u : Nat} {x : Int} {i : Instr} (H : am_i C K Q z b pc ls st h nx t u x i) : am_i C' K Q z b pc ls st h nx t u x i := by
  have key : ∀ {b nx t : Nat} {ls : am_L} {h : am_H} {args st : List am_V}, am_call C K b nx t ls h args st → am_call C' K b nx t ls h args st := by
    intro b nx t ls h args st H
    unfold am_call at H ⊢
    refine ⟨H.1, ?_⟩
    obtain ⟨-, H⟩ := H
    by_cases hc : t = am_BD
    · rw [if_pos hc] at H ⊢
      cases b with
      | zero => exact H
      | succ b' =>
        obtain ⟨r, h1, q1, q2⟩ := H
        exact ⟨r, h1, hCC _ _ _ _ _ q1, q2⟩
    · rw [if_neg hc] at H ⊢
      obtain ⟨r, h1, q1, q2⟩ := H
      exact ⟨r, h1, hCC _ _ _ _ _ q1, q2⟩
  cases i <;> first
    | exact H
    | skip
  · unfold am_i at H ⊢
    dsimp only at H ⊢
    by_cases hc : t = 9999
    · rw [if_pos hc] at H ⊢
      exact H
    · rw [if_neg hc] at H ⊢
      revert H
      split <;> intro H
      · exact key H
      · exact H
  · unfold am_i at H ⊢
    dsimp only at H ⊢
    revert H
    split <;> intro H
    · exact ⟨H.1, key H.2⟩
    · exact H
theorem am_w_sub {C C' : Nat → List am_V → am_H → Option am_V → am_H → Prop} (hC' : am_det C') (hCC : ∀ j vs h r h1, C j vs h r h1 → C' j vs h r h1) {k : Nat} {Q : am_Q} : ∀ (n b pc : Nat) (ls : am_L) (st : List am_V) (h : am_H), am_w C k Q n b pc ls st h → am_w C' k Q n b pc ls st h
  | 0, _, _, _, _, _, H => by rw [am_w] at H; exact H.elim
  | n + 1, b, pc, ls, st, h, H => by
    obtain ⟨i, nx, t, u, x, hl, hi⟩ := am_w_look H
    rw [am_w_succ hl]
    exact am_i_mono (C' := C') hC' (am_i_sub hCC hi) (fun b pc ls st h q => am_w_sub hC' hCC n b pc ls st h q) (fun _ _ q => q)
theorem am_cd_succ : ∀ (d j : Nat) (vs : List am_V) (h : am_H) (r : Option am_V) (h1 : am_H), am_cd d j vs h r h1 → am_cd (d + 1) j vs h r h1
  | 0, _, _, _, _, _, H => by rw [am_cd] at H; exact H.elim
  | d + 1, j, vs, h, r, h1, H => by
    rw [am_cd] at H ⊢
    obtain ⟨H0, n, H⟩ := H
    exact ⟨H0, n, am_w_sub (am_cd_det (d + 1)) (am_cd_succ d) n _ _ _ _ _ H⟩
theorem am_cd_le {d d' : Nat} (hd : d ≤ d') {j : Nat} {vs : List am_V} {h : am_H} {r : Option am_V} {h1 : am_H} (H : am_cd d j vs h r h1) : am_cd d' j vs h r h1 := by
  obtain ⟨n, rfl⟩ : ∃ n, d' = d + n := ⟨d' - d, by omega⟩
  clear hd
  induction n with
  | zero => exact H
  | succ n ih => exact am_cd_succ _ _ _ _ _ _ ih
/-- a call whose answer is known -/
theorem am_cc {d0 d : Nat} {j : Nat} {vs : List am_V} {h : am_H} {r0 : Option am_V} {h0 : am_H} (S : am_cd d0 j vs h r0 h0) (hd : d0 ≤ d) (P : Option am_V → am_H → Prop) : (∃ r h1, am_cd d j vs h r h1 ∧ P r h1) = P r0 h0 := by
  apply propext
  constructor
  · rintro ⟨r, h1, q1, q2⟩
    obtain ⟨rfl, rfl⟩ := am_cd_det d _ _ _ _ _ _ _ q1 (am_cd_le hd S)
    exact q2
  · intro q
    exact ⟨r0, h0, am_cd_le hd S, q⟩
theorem am_call_eq {C : Nat → List am_V → am_H → Option am_V → am_H → Prop} {K : Nat → Nat → am_L → List am_V → am_H → Prop} {b nx t : Nat} {ls : am_L} {h : am_H} {args st : List am_V} (ht : (t == am_BD) = false) (hl : am_wd st ≤ 8) : am_call C K b nx t ls h args st = ∃ r h1, C t args h r h1 ∧ K b nx ls (r.toList ++ st) h1 := by
  have h1 : ¬ t = am_BD := by simpa using ht
  unfold am_call
  rw [if_neg h1]
  exact propext ⟨fun q => q.2, fun q => ⟨hl, q⟩⟩
/-- a place is run through -/
theorem am_gd {d k : Nat} {Q : am_Q} (cuts : List Nat) (n : Nat) {b pc : Nat} {ls : am_L} {st : List am_V} {h : am_H} (H : am_e (am_cd d) k (am_u (am_cd d) k Q cuts n) Q False b pc ls st h false (am_look k pc)) : am_x (am_cd d) k Q b pc ls st h := am_go (am_cd_det d) cuts n H
