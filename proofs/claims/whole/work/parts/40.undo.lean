/-! undoing -/
theorem CN_pop {n : Int} {K W B : Int → Int} {S : Int → Int → Int} {N M : Int → Int} (C : CN n K W B S N) (np : 0 < n) (e : ag M (S (n - 1))) : OK M ∧ CN (n - 1) K W B S M := by
  have hn := C.1
  have ok := C.2.1 (n - 1) (by omega) (by omega)
  refine ⟨OK_cg (ag_sym e) ok, ⟨by omega, by omega⟩, fun i i0 i1 => C.2.1 i i0 (by omega), fun i i0 i1 => C.2.2.1 i i0 (by omega), fun q => ?_⟩
  have := C.2.2.1 (n - 1 - 1) (by omega) (by omega)
  rw [show n - 1 - 1 + 1 = n - 1 by omega] at this
  exact UR_cg (OK_cg (ag_sym e) ok) (C.2.1 _ (by omega) (by omega)) (ag_sym e) (fun _ _ _ => rfl) this
theorem S_undo {h : am_H} {N : Int → Int} {n : Int} {K W B : Int → Int} {S : Int → Int → Int} {P : Int → am_H → Prop} (O : OK N) (T : ST h N) (C : CH h n K W B) (CC : CN n K W B S N) (hf : am_ok (h 0 13 + 1)) (H1 : n = 0 → P (-100006) (am_up h 0 13 (h 0 13 + 1))) (H2 : 0 < n → ∀ h1, AF h h1 → CH h1 (n - 1) K W B → ST h1 (S (n - 1)) → P (n - 1) h1) : ∃ a_ h_, am_cd 3 160 [.inr (.inr 0)] h (some (.inl a_)) h_ ∧ P a_ h_ := by
  have hn := CC.1
  refine e_At_undo ?_
  rw [C.1]
  refine ⟨fun c => ⟨⟨by omega, by omega⟩, ?_⟩, fun c => ⟨hf, H1 c⟩⟩
  have cc := C.2 (n - 1) (by omega) (by omega)
  rw [show (-1 : Int) + n = n - 1 by omega, cc.1, cc.2.1, cc.2.2]
  have U := CC.2.2.2 (by omega)
  generalize hk : K (n - 1) = k at *
  generalize hw : W (n - 1) = w at *
  generalize hb : B (n - 1) = b at *
  have u0 : uh k w b h 0 13 = h 0 13 := by
    unfold uh
    repeat' split
    all_goals first | rw [up_same, if_neg (by decide)] | rw [up_ne (by decide), up_ne (by decide)] | rw [up_ne (by decide)]
  have up : ∀ p, 22 < p → uh k w b h p = h p := fun p hp => by
    unfold uh
    repeat' split
    all_goals first | rw [up_ne (by omega), up_ne (by omega)] | rw [up_ne (by omega)]
  have go : P (n - 1) (am_up (uh k w b h) 51 0 (n - 1)) := by
    refine H2 (by omega) _ ⟨fun p p1 p2 => by rw [up_ne (by omega)]; exact up p (by omega), by rw [up_ne (by decide)]; exact u0⟩ ⟨by rw [up_same, if_pos rfl], fun i i0 i1 => ?_⟩ (ST_note (fun p p1 _ _ _ => up_ne p1) (U.2.2.2 h T))
    rw [up_ne (by decide), up 52 (by decide), up_ne (show (53 : Nat) ≠ 51 by decide), up 53 (by decide), up_ne (show (54 : Nat) ≠ 51 by decide), up 54 (by decide)]
    exact C.2 i i0 (by omega)
  have l0 := O.1.1
  have l1 := O.2.1.1
  have l2 := O.2.2.1.1
  have l3 := O.2.2.2.1.1
  have t0 := T.1.1
  have t1 := T.2.1.1
  have t2 := T.2.2.1.1
  have t3 := T.2.2.2.1.1
  unfold uh at go
  refine ⟨fun q => ⟨by omega, ?_⟩, fun q0 => ⟨fun q => ?_, fun q1 => ⟨fun q => ⟨by omega, ?_⟩, fun q2 => ⟨fun q => ⟨?_, ?_⟩, fun q3 => ⟨fun q => ⟨by omega, ?_⟩, fun q4 => ⟨fun q => ⟨U.2.2.1 q, ?_⟩, fun q5 => ?_⟩⟩⟩⟩⟩⟩
  · rw [if_pos q] at go; exact go
  · have wb := U.1 q
    rw [if_neg q0, if_pos q] at go
    exact ⟨wb.1, ⟨by omega, by omega⟩, by omega, ⟨by omega, by omega⟩, by omega, go⟩
  · rw [if_neg q0, if_neg q1, if_pos q] at go; exact go
  · have := U.2.1 q; omega
  · rw [if_neg q0, if_neg q1, if_neg q2, if_pos q] at go; exact go
  · rw [if_neg q0, if_neg q1, if_neg q2, if_neg q3, if_pos q] at go; exact go
  · rw [if_neg q0, if_neg q1, if_neg q2, if_neg q3, if_neg q4, if_pos q] at go; exact go
  · rw [if_neg q0, if_neg q1, if_neg q2, if_neg q3, if_neg q4, if_neg q5] at go; exact go
theorem S_Mundo {h : am_H} {n : Int} {S : Int → Int → Int} {P : Int → am_H → Prop} (n0 : 0 ≤ n) (n6 : n ≤ 6) (C : MH h n S) (hf : am_ok (h 56 3 + 1)) (H1 : n = 0 → P (-100006) (am_up h 56 3 (h 56 3 + 1))) (H2 : 0 < n → ∀ h1, MAF h h1 → MH h1 (n - 1) S → ag (h1 57) (S (n - 1)) → P (n - 1) h1) : ∃ a_ h_, am_cd 2 118 [.inr (.inr 56)] h (some (.inl a_)) h_ ∧ P a_ h_ := by
  refine e_Mo_undo ?_
  rw [C.1]
  refine ⟨fun c => ⟨by omega, ?_⟩, fun c => ⟨hf, H1 c⟩⟩
  have key : ∀ x1 h', 0 ≤ x1 → x1 ≤ 820 → (∀ p, p ≠ 57 → h' p = am_up h 56 2 (n - 1) p) → (∀ k, 0 ≤ k → k < x1 → h' 57 k = S (n - 1) k) → am_x (am_cd 1) 118 (am_qi P) 0 26 [some (.inr (.inr 56)), some (.inl x1)] [] h' := by
    refine upto 820 (fun x1 ih h' a0 a1 a2 a3 => ?_)
    have e56 : h' 56 2 = n - 1 := by rw [a2 56 (by decide), up_same, if_pos rfl]
    have e58 : h' 58 = h 58 := by rw [a2 58 (by decide), up_ne (by decide)]
    refine g_Mo_undo_26 ?_
    rw [e56, e58]
    refine ⟨fun hc => H2 (by omega) h' ⟨fun p p1 p2 p3 => by rw [a2 p p2, up_ne p1], fun j j2 => by rw [a2 56 (by decide), up_same, if_neg j2]⟩ ⟨e56, fun i k i0 i1 k0 k1 => by rw [e58]; exact C.2 i k i0 (by omega) k0 k1⟩ (fun k k0 k1 => a3 k k0 (by omega)), fun hc => ⟨⟨by omega, by omega, by omega, by omega, by omega⟩, ih hc _ (by omega) (by omega) (fun p hp => (up_ne hp).trans (a2 p hp)) (fun k k0 k1 => ?_)⟩⟩
    rw [up_same]
    by_cases q : k = x1
    · rw [if_pos q, q]; exact C.2 (n - 1) x1 (by omega) (by omega) a0 hc
    · rw [if_neg q]; exact a3 k k0 (by omega)
  exact key 0 _ (by omega) (by omega) (fun _ _ => rfl) (fun k _ _ => by omega)
