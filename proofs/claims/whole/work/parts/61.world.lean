/-! from the abstract machine to the kit's: values, cells, the world -/
def sv (ad : Nat → Nat) : am_V → Value
  | .inl z => .int (Int32.ofInt z)
  | .inr (.inl y) => .long y
  | .inr (.inr q) => .ref (ad q)
def sok (h : am_H) : am_V → Prop
  | .inl z => am_ok z
  | .inr (.inl _) => True
  | .inr (.inr q) => q < am_n h ∨ 2000 ≤ q
def wfv (ad : Nat → Nat) (h : am_H) (q x : Nat) : Option Nat → Value
  | none => .int (Int32.ofInt (h q (x : Int)))
  | some r => .ref (ad r)
def wfs (ad : Nat → Nat) (h : am_H) (q : Nat) (fs : List (Option Nat)) : List Value := fs.mapIdx (fun x o => wfv ad h q x o)
def wcf (h : am_H) (q : Nat) : Nat → Int32 := fun j => Int32.ofInt (h q (j : Int))
def wce (ad : Nat → Nat) (cA : ClassId) (h : am_H) (q : Nat) : va_E := match am_cell q with
  | .inl n => .inl (cA, n, .inl (wcf h q))
  | .inr (ci, fs) => .inr (ci, wfs ad h q fs)
def ww (ad : Nat → Nat) (cA : ClassId) (h : am_H) : va_W := (List.range (am_n h)).map (fun q => (ad q, wce ad cA h q))
theorem ww_at {ad : Nat → Nat} {cA : ClassId} {h : am_H} {q : Nat} (hq : q < am_n h) : (ww ad cA h)[q]? = some (ad q, wce ad cA h q) := by
  unfold ww; rw [List.getElem?_map, List.getElem?_range hq]; rfl
theorem ww_inv {ad : Nat → Nat} {cA : ClassId} {h : am_H} {q : Nat} {e : Nat × va_E} (H : (ww ad cA h)[q]? = some e) : q < am_n h ∧ e = (ad q, wce ad cA h q) := by
  have hq : q < am_n h := by
    have := (List.getElem?_eq_some_iff.mp H).1
    unfold ww at this; rwa [List.length_map, List.length_range] at this
  refine ⟨hq, ?_⟩
  rw [ww_at hq] at H
  exact (Option.some.inj H).symm
theorem wce_cg {ad : Nat → Nat} {cA : ClassId} {h h' : am_H} {q : Nat} (e : h' q = h q) : wce ad cA h' q = wce ad cA h q := by
  unfold wce
  cases am_cell q with
  | inl n => dsimp only; unfold wcf; rw [e]
  | inr o =>
    dsimp only; unfold wfs
    congr 1; congr 1
    refine congrArg (fun f => List.mapIdx f o.2) (funext fun x => funext fun r => ?_)
    unfold wfv; cases r with
    | none => dsimp only; rw [e]
    | some r => rfl
theorem ww_set {ad : Nat → Nat} {cA : ClassId} {h h' : am_H} {q : Nat} {e : va_E} (hq : q < am_n h) (hn : am_n h' = am_n h) (ho : ∀ j, j ≠ q → h' j = h j ∨ am_n h ≤ j) (he : wce ad cA h' q = e) : (ww ad cA h).set q (ad q, e) = ww ad cA h' := by
  refine List.ext_getElem? (fun j => ?_)
  by_cases hj : j < am_n h
  · rw [ww_at (h := h') (by omega)]
    by_cases z : j = q
    · subst z
      rw [List.getElem?_set_self (by unfold ww; rw [List.length_map, List.length_range]; exact hj), he]
    · rw [List.getElem?_set_ne (fun k => z k.symm), ww_at hj]
      rcases ho j z with w | w
      · rw [wce_cg w]
      · omega
  · rw [List.getElem?_eq_none (by rw [List.length_set]; unfold ww; rw [List.length_map, List.length_range]; omega), List.getElem?_eq_none (by unfold ww; rw [List.length_map, List.length_range]; omega)]
theorem am_cell_hi {q : Nat} (hq : 80 ≤ q) : am_cell q = .inl 4 := by
  unfold am_cell
  rw [List.getD_eq_getElem?_getD, List.getElem?_eq_none (by rw [show am_cells.length = 80 from by decide +kernel]; exact hq)]
  rfl
def am_cok : Bool := am_cells.all (fun c => match c with
  | .inl n => decide (n < 1000000)
  | .inr (ci, fs) => decide (ci < 13) && decide (fs.length = (am_cls.getD ci ("", fun _ => ("", "", "", false), 0)).2.2) && (List.range fs.length).all (fun k => match fs[k]? with
    | some none => decide (((am_cls.getD ci ("", fun _ => ("", "", "", false), 0)).2.1 k).2.2.1 = "I") && decide (((am_cls.getD ci ("", fun _ => ("", "", "", false), 0)).2.1 k).2.2.2 = false)
    | some (some r) => decide (r < 80)
    | none => true))
theorem am_cok_ok : am_cok = true := by decide +kernel
theorem am_cell_len {q n : Nat} (h : am_cell q = .inl n) : n < 1000000 := by
  by_cases hq : q < 80
  · have hl : q < am_cells.length := by rw [show am_cells.length = 80 from by decide +kernel]; exact hq
    have e : am_cell q = am_cells[q] := by unfold am_cell; rw [List.getD_eq_getElem?_getD, List.getElem?_eq_getElem hl]; rfl
    have := List.all_eq_true.mp am_cok_ok _ (List.getElem_mem hl)
    rw [← e, h] at this
    simpa using this
  · rw [am_cell_hi (by omega)] at h
    cases h; decide
theorem am_cell_obj {q ci : Nat} {fs : List (Option Nat)} (h : am_cell q = .inr (ci, fs)) : q < 80 ∧ ci < 13 ∧ fs.length = (am_cls.getD ci ("", fun _ => ("", "", "", false), 0)).2.2 ∧ (∀ k, fs[k]? = some none → ((am_cls.getD ci ("", fun _ => ("", "", "", false), 0)).2.1 k).2.2.1 = "I" ∧ ((am_cls.getD ci ("", fun _ => ("", "", "", false), 0)).2.1 k).2.2.2 = false) ∧ ∀ (k r : Nat), fs[k]? = some (some r) → r < 80 := by
  have hq : q < 80 := by
    rcases Nat.lt_or_ge q 80 with z | z
    · exact z
    · rw [am_cell_hi z] at h; cases h
  have hl : q < am_cells.length := by rw [show am_cells.length = 80 from by decide +kernel]; exact hq
  have e : am_cell q = am_cells[q] := by unfold am_cell; rw [List.getD_eq_getElem?_getD, List.getElem?_eq_getElem hl]; rfl
  have := List.all_eq_true.mp am_cok_ok _ (List.getElem_mem hl)
  rw [← e, h] at this
  simp only [Bool.and_eq_true, decide_eq_true_eq] at this
  obtain ⟨⟨a1, a2⟩, a3⟩ := this
  have key : ∀ k o, fs[k]? = some o → (match fs[k]? with
    | some none => decide (((am_cls.getD ci ("", fun _ => ("", "", "", false), 0)).2.1 k).2.2.1 = "I") && decide (((am_cls.getD ci ("", fun _ => ("", "", "", false), 0)).2.1 k).2.2.2 = false)
    | some (some r) => decide (r < 80)
    | none => true) = true := fun k o ho => List.all_eq_true.mp a3 k (List.mem_range.mpr (List.getElem?_eq_some_iff.mp ho).1)
  refine ⟨hq, a1, a2, fun k hk => ?_, fun k r hk => ?_⟩
  · have := key k _ hk
    rw [hk] at this
    simpa using this
  · have := key k _ hk
    rw [hk] at this
    simpa using this
theorem am_n_80 (h : am_H) : 80 ≤ am_n h := by unfold am_n; omega
theorem al_lo {h : am_H} {q n : Nat} (H : am_al h q = some n) (hq : q < 1000) : am_cell q = .inl n ∧ q < am_n h := by
  unfold am_al at H
  have := am_n_80 h
  by_cases z : q < 80
  · rw [if_pos z] at H
    refine ⟨?_, by omega⟩
    cases hc : am_cell q with
    | inl k => rw [hc] at H; exact congrArg Sum.inl (Option.some.inj H)
    | inr o => rw [hc] at H; cases H
  · rw [if_neg z, if_pos hq] at H
    by_cases w : q < am_n h
    · rw [if_pos w] at H; cases H; exact ⟨am_cell_hi (by omega), w⟩
    · rw [if_neg w] at H; cases H
theorem al_hi {h : am_H} {q n : Nat} (H : am_al h q = some n) (hq : ¬ q < 1000) : (q = 2000 ∧ n = (h 1000 1).toNat) ∨ (q = 2001 ∧ n = 4) ∨ ((q = 2002 ∨ q = 2003) ∧ n = 8) := by
  unfold am_al at H
  rw [if_neg (by omega), if_neg hq] at H
  by_cases z : q = 2000
  · rw [if_pos z] at H; exact .inl ⟨z, (Option.some.inj H).symm⟩
  · rw [if_neg z] at H
    by_cases w : q = 2001
    · rw [if_pos w] at H; exact .inr (.inl ⟨w, (Option.some.inj H).symm⟩)
    · rw [if_neg w] at H
      by_cases v : q = 2002 ∨ q = 2003
      · rw [if_pos v] at H; exact .inr (.inr ⟨v, (Option.some.inj H).symm⟩)
      · rw [if_neg v] at H; cases H
theorem am_fd_ok {a t : Nat} {o : Option Nat} (H : am_fd a t = some o) : ∃ fs, am_cell a = .inr (t / 64, fs) ∧ fs[t % 64]? = some o := by
  unfold am_fd at H
  cases hc : am_cell a with
  | inl n => rw [hc] at H; cases H
  | inr o2 =>
    obtain ⟨ci, fs⟩ := o2
    rw [hc] at H
    dsimp only at H
    by_cases z : t / 64 = ci
    · rw [if_pos z] at H; exact ⟨fs, by rw [z], H⟩
    · rw [if_neg z] at H; cases H
