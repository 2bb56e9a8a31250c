/-! what lies outside the world and stays: the script, the constant rows -/
def fxA (ad : Nat → Nat) (A : Nat → Prop) (L : Nat) (xs : Int → Int) (U : State) (H : Heap) : Prop := va_X (ad 2000) L (fun j => Int32.ofInt (xs (j : Int))) U H ∧ ad 2000 < H.size ∧ ¬ A (ad 2000)
def fxZ (C n : String) (q N : Nat) (ad : Nat → Nat) (A : Nat → Prop) (U : State) (H : Heap) : Prop := va_Z C n "[I" (.ref (ad q)) A U H ∧ va_T .int (ad q) N (fun j => .int (Int32.ofInt (am_ct q (j : Int)))) A U H
def fx (ad : Nat → Nat) (A : Nat → Prop) (L : Nat) (xs : Int → Int) (U : State) (H : Heap) : Prop := fxA ad A L xs U H ∧ fxZ "DialectAtlas$Asked" "ABOVE" 2001 4 ad A U H ∧ fxZ "DialectAtlas$Border" "ACROSS" 2002 8 ad A U H ∧ fxZ "DialectAtlas$Border" "UP" 2003 8 ad A U H
theorem fxZ_mv {C n : String} {q N : Nat} {ad ad' : Nat → Nat} {A B : Nat → Prop} {u U : State} {H H1 : Heap} (e : ad' q = ad q) (hvm : u.vm.Alike U.vm) (hk : ∀ a : Nat, a < H.size → ¬ A a → H1[a]? = H[a]?) (hAB : ∀ q, B q → A q) (h : fxZ C n q N ad A u H) : fxZ C n q N ad' B U H1 := by
  unfold fxZ; rw [e]
  exact ⟨((h.1.kept hk).narrow hAB).moved hvm, ((h.2.kept hk).narrow hAB).moved hvm⟩
theorem fx_mv {ad ad' : Nat → Nat} {A B : Nat → Prop} {L : Nat} {xs : Int → Int} {u U : State} {H H1 : Heap} (e : ∀ q, 2000 ≤ q → ad' q = ad q) (hvm : u.vm.Alike U.vm) (hz : H.size ≤ H1.size) (hk : ∀ a : Nat, a < H.size → ¬ A a → H1[a]? = H[a]?) (hAB : ∀ q, B q → A q) (h : fx ad A L xs u H) : fx ad' B L xs U H1 := by
  obtain ⟨⟨a1, a2, a3⟩, b1, b2, b3⟩ := h
  refine ⟨?_, fxZ_mv (e _ (by decide)) hvm hk hAB b1, fxZ_mv (e _ (by decide)) hvm hk hAB b2, fxZ_mv (e _ (by decide)) hvm hk hAB b3⟩
  unfold fxA
  rw [e 2000 (by decide)]
  exact ⟨(a1.kept (hk _ a2 a3)).moved hvm, by omega, fun z => a3 (hAB _ z)⟩
/-- a heap of numbers is in order -/
def hwf (h : am_H) (L : Nat) (xs : Int → Int) : Prop := (∀ p j, am_ok (h p j)) ∧ (0 ≤ h 1000 0 ∧ h 1000 0 ≤ 800) ∧ (h 1000 1).toNat = L ∧ h 2000 = xs
theorem hwf_up {h : am_H} {L : Nat} {xs : Int → Int} {p : Nat} {i v : Int} (H : hwf h L xs) (hp : p < 1000) (hv : am_ok v) : hwf (am_up h p i v) L xs := by
  obtain ⟨a1, a2, a3, a4⟩ := H
  have e : ∀ q, q ≠ p → am_up h p i v q = h q := fun q hq => by funext j; unfold am_up; rw [if_neg (fun z => hq z.1)]
  refine ⟨fun q j => ?_, ?_, ?_, ?_⟩
  · unfold am_up
    by_cases z : q = p ∧ j = i
    · rw [if_pos z]; exact hv
    · rw [if_neg z]; exact a1 q j
  · rw [e 1000 (by omega)]; exact a2
  · rw [e 1000 (by omega)]; exact a3
  · rw [e 2000 (by omega)]; exact a4
theorem hwf_cp {h : am_H} {L : Nat} {xs : Int → Int} {a b : Nat} {sp dp n : Int} (H : hwf h L xs) (hb : b < 1000) : hwf (am_cp h a sp b dp n) L xs := by
  obtain ⟨a1, a2, a3, a4⟩ := H
  have e : ∀ q, q ≠ b → am_cp h a sp b dp n q = h q := fun q hq => by funext j; unfold am_cp; rw [if_neg (fun z => hq z.1)]
  refine ⟨fun q j => ?_, ?_, ?_, ?_⟩
  · unfold am_cp
    by_cases z : q = b ∧ dp ≤ j ∧ j < dp + n
    · rw [if_pos z]; exact a1 _ _
    · rw [if_neg z]; exact a1 q j
  · rw [e 1000 (by omega)]; exact a2
  · rw [e 1000 (by omega)]; exact a3
  · rw [e 2000 (by omega)]; exact a4
theorem am_n_nw {h : am_H} (h0 : 0 ≤ h 1000 0) : am_n (am_nw h) = am_n h + 1 := by
  have e : am_nw h 1000 0 = h 1000 0 + 1 := by unfold am_nw; rw [if_pos ⟨rfl, rfl⟩]
  unfold am_n; rw [e]; omega
theorem am_nw_o {h : am_H} {q : Nat} (h1 : q ≠ 1000) (h2 : q ≠ am_n h) : am_nw h q = h q := by
  funext j; unfold am_nw; rw [if_neg (fun z => h1 z.1), if_neg h2]
theorem hwf_nw {h : am_H} {L : Nat} {xs : Int → Int} (H : hwf h L xs) (hk : h 1000 0 < 800) : hwf (am_nw h) L xs := by
  obtain ⟨a1, a2, a3, a4⟩ := H
  have en : am_n h < 1000 := by unfold am_n; omega
  have e0 : am_nw h 1000 0 = h 1000 0 + 1 := by unfold am_nw; rw [if_pos ⟨rfl, rfl⟩]
  refine ⟨fun q j => ?_, by rw [e0]; omega, ?_, ?_⟩
  · unfold am_nw
    by_cases z : q = 1000 ∧ j = 0
    · rw [if_pos z]; constructor <;> omega
    · rw [if_neg z]
      by_cases y : q = am_n h
      · rw [if_pos y]; constructor <;> omega
      · rw [if_neg y]; exact a1 q j
  · have : am_nw h 1000 1 = h 1000 1 := by unfold am_nw; rw [if_neg (fun z => absurd z.2 (by decide)), if_neg (by omega)]
    rw [this]; exact a3
  · rw [am_nw_o (by decide) (by omega)]; exact a4
theorem am_n_up {h : am_H} {p : Nat} {i v : Int} (hp : p < 1000) : am_n (am_up h p i v) = am_n h := by
  unfold am_n am_up; rw [if_neg (fun z => by omega)]
theorem am_n_cp {h : am_H} {a b : Nat} {sp dp n : Int} (hp : b < 1000) : am_n (am_cp h a sp b dp n) = am_n h := by
  unfold am_n am_cp; rw [if_neg (fun z => by omega)]
theorem up_o {h : am_H} {p q : Nat} {i v : Int} (hq : q ≠ p) : am_up h p i v q = h q := by funext j; unfold am_up; rw [if_neg (fun z => hq z.1)]
/-- the world behind a putfield -/
theorem ww_put {ad : Nat → Nat} {cA : ClassId} {h : am_H} {a ci x : Nat} {fs : List (Option Nat)} {v : Int} (hc : am_cell a = .inr (ci, fs)) (hx : fs[x]? = some none) : (ww ad cA h).set a (ad a, .inr (ci, (wfs ad h a fs).set x (.int (Int32.ofInt v)))) = ww ad cA (am_up h a (x : Int) v) := by
  have o := am_cell_obj hc
  have n8 := am_n_80 h
  refine ww_set (by omega) (am_n_up (by omega)) (fun j hj => .inl (up_o hj)) ?_
  unfold wce
  rw [hc]
  dsimp only
  congr 1; congr 1
  refine List.ext_getElem? (fun j => ?_)
  unfold wfs
  by_cases z : j = x
  · subst z
    have hl := (List.getElem?_eq_some_iff.mp hx).1
    rw [List.getElem?_set_self (by rw [List.length_mapIdx]; exact hl), List.getElem?_mapIdx, hx]
    show some (wfv ad (am_up h a (j : Int) v) a j none) = _
    unfold wfv am_up
    dsimp only
    rw [if_pos ⟨rfl, rfl⟩]
  · rw [List.getElem?_set_ne (fun k => z k.symm), List.getElem?_mapIdx, List.getElem?_mapIdx]
    congr 1
    funext o
    unfold wfv am_up
    cases o with
    | none => dsimp only; rw [if_neg (fun k => z (by omega))]
    | some r => rfl
/-- the world behind an iastore -/
theorem ww_ast {ad : Nat → Nat} {cA : ClassId} {h : am_H} {a n : Nat} {i v : Int} (hc : am_cell a = .inl n) (ha : a < am_n h) (hk : a < 1000) (i0 : 0 ≤ i) (ik : am_ok i) : (ww ad cA h).set a (ad a, .inl (cA, n, .inl (upd (wcf h a) (Int32.ofInt i).toNatClampNeg (Int32.ofInt v)))) = ww ad cA (am_up h a i v) := by
  refine ww_set ha (am_n_up hk) (fun j hj => .inl (up_o hj)) ?_
  unfold wce
  rw [hc]
  dsimp only
  congr 1; congr 1; congr 1; congr 1
  rw [sI_cl i0 ik]
  funext j
  unfold wcf upd am_up
  by_cases z : (j : Int) = i
  · rw [if_pos ⟨rfl, z⟩, if_pos (by omega)]
  · rw [if_neg (fun k => z k.2), if_neg (by omega)]
theorem ww_cpy {ad : Nat → Nat} {cA : ClassId} {h : am_H} {a b n : Nat} {sp dp k : Int} (hc : am_cell b = .inl n) (hb : b < am_n h) (hk : b < 1000) (s0 : 0 ≤ sp) (d0 : 0 ≤ dp) (k0 : 0 ≤ k) (so : am_ok sp) (do' : am_ok dp) (ko : am_ok k) : (ww ad cA h).set b (ad b, .inl (cA, n, .inl (va_cpy (wcf h a) (wcf h b) (Int32.ofInt sp).toNatClampNeg (Int32.ofInt dp).toNatClampNeg (Int32.ofInt k).toNatClampNeg))) = ww ad cA (am_cp h a sp b dp k) := by
  refine ww_set hb (am_n_cp hk) (fun j hj => .inl (by funext x; unfold am_cp; rw [if_neg (fun z => hj z.1)])) ?_
  unfold wce
  rw [hc]
  dsimp only
  congr 1; congr 1; congr 1; congr 1
  rw [sI_cl s0 so, sI_cl d0 do', sI_cl k0 ko]
  funext j
  unfold wcf va_cpy am_cp
  by_cases z : dp ≤ (j : Int) ∧ (j : Int) < dp + k
  · rw [if_pos ⟨rfl, z⟩, if_pos (by omega)]
    congr 1; congr 1; omega
  · rw [if_neg (fun w => z w.2), if_neg (by omega)]
theorem ww_nw {ad : Nat → Nat} {cA : ClassId} {h : am_H} {q : Nat} (h0 : 0 ≤ h 1000 0) (h8 : h 1000 0 < 800) : ww ad cA h ++ [(q, .inl (cA, 4, .inl (fun _ => 0)))] = ww (fun j => if j = am_n h then q else ad j) cA (am_nw h) := by
  have n8 := am_n_80 h
  have en : am_n h < 1000 := by unfold am_n; omega
  conv => rhs; unfold ww
  rw [am_n_nw h0, List.range_succ, List.map_append]
  congr 1
  · unfold ww
    refine List.map_congr_left (fun j hj => ?_)
    have hj := List.mem_range.mp hj
    refine Prod.ext (by show ad j = if j = am_n h then q else ad j; rw [if_neg (by omega)]) ?_
    show wce ad cA h j = wce (fun j => if j = am_n h then q else ad j) cA (am_nw h) j
    unfold wce
    cases hc : am_cell j with
    | inl n =>
      dsimp only; congr 1; congr 1; congr 1; congr 1
      unfold wcf; rw [am_nw_o (by omega) (by omega)]
    | inr o =>
      obtain ⟨ci, fs⟩ := o
      have ob := am_cell_obj hc
      dsimp only; congr 1; congr 1
      unfold wfs
      refine List.ext_getElem? (fun x => ?_)
      rw [List.getElem?_mapIdx, List.getElem?_mapIdx]
      cases hx : fs[x]? with
      | none => rfl
      | some o =>
        show some _ = some _
        congr 1
        cases o with
        | none => show Value.int _ = Value.int _; rw [am_nw_o (by omega) (by omega)]
        | some r =>
          have := ob.2.2.2.2 x r hx
          show Value.ref (ad r) = Value.ref (if r = am_n h then q else ad r)
          rw [if_neg (by omega)]
  · show [_] = [_]
    congr 1
    refine Prod.ext (by show q = if am_n h = am_n h then q else ad (am_n h); rw [if_pos rfl]) ?_
    show _ = wce (fun j => if j = am_n h then q else ad j) cA (am_nw h) (am_n h)
    unfold wce
    rw [am_cell_hi n8]
    dsimp only; congr 1; congr 1; congr 1; congr 1
    funext j
    unfold wcf am_nw
    rw [if_neg (fun z => by omega), if_pos rfl]
    rfl
