/-! loops, sums, frames -/
theorem upto {p : Int → Prop} (n : Int) (hs : ∀ x, (x < n → p (x + 1)) → p x) : ∀ x, p x := by
  have key : ∀ (k : Nat) (x : Int), (n - x).toNat = k → p x := by
    intro k
    induction k with
    | zero => intro x hx; exact hs x (fun q => by omega)
    | succ k ih => intro x hx; exact hs x (fun q => ih (x + 1) (by omega))
  exact fun x => key _ x rfl
theorem downto {p : Int → Prop} (n : Int) (hs : ∀ x, (n ≤ x → p (x + (-1))) → p x) : ∀ x, p x := by
  have key : ∀ (k : Nat) (x : Int), (x + 1 - n).toNat = k → p x := by
    intro k
    induction k with
    | zero => intro x hx; exact hs x (fun q => by omega)
    | succ k ih => intro x hx; exact hs x (fun q => ih (x + (-1)) (by omega))
  exact fun x => key _ x rfl
theorem measured {α : Type} {p : α → Prop} (m : α → Nat) (hs : ∀ x, (∀ y, m y < m x → p y) → p x) : ∀ x, p x := by
  have key : ∀ (k : Nat) (x : α), m x ≤ k → p x := by
    intro k
    induction k with
    | zero => intro x hx; exact hs x (fun y q => by omega)
    | succ k ih => intro x hx; exact hs x (fun y q => ih y (by omega))
  exact fun x => key _ x (Nat.le_refl _)
def sm (f : Int → Int) : Nat → Int
  | 0 => 0
  | n + 1 => sm f n + f n
def su (f : Int → Int) (x : Int) : Int := sm f x.toNat
theorem su_0 {f : Int → Int} {x : Int} (h : x ≤ 0) : su f x = 0 := by
  unfold su
  rw [show x.toNat = 0 by omega]; rfl
theorem su_1 {f : Int → Int} {x : Int} (h : 0 ≤ x) : su f (x + 1) = su f x + f x := by
  unfold su
  rw [show (x + 1).toNat = x.toNat + 1 by omega]
  show sm f x.toNat + f (x.toNat : Int) = _
  rw [show ((x.toNat : Nat) : Int) = x by omega]
theorem su_ind {f : Int → Int} {q : Int → Int → Prop} (q0 : q 0 0) (qs : ∀ x s, 0 ≤ x → q x s → q (x + 1) (s + f x)) {x : Int} (h : 0 ≤ x) : q x (su f x) := by
  obtain ⟨n, rfl⟩ := Int.eq_ofNat_of_zero_le h
  clear h
  induction n with
  | zero => exact q0
  | succ n ih =>
    have := qs n _ (by omega) ih
    rw [← su_1 (by omega)] at this
    exact this
theorem su_congr {f g : Int → Int} {n : Int} (e : ∀ x, 0 ≤ x → x < n → f x = g x) : su f n = su g n := by
  by_cases h : 0 ≤ n
  · obtain ⟨m, rfl⟩ := Int.eq_ofNat_of_zero_le h
    clear h
    induction m with
    | zero => rw [su_0 (by omega), su_0 (by omega)]
    | succ m ih =>
      rw [show ((m + 1 : Nat) : Int) = (m : Int) + 1 by omega, su_1 (by omega), su_1 (by omega), e m (by omega) (by omega), ih (fun x h0 h1 => e x h0 (by omega))]
  · rw [su_0 (by omega), su_0 (by omega)]
theorem su_bd {f : Int → Int} {B n : Int} (hB : 0 ≤ B) (h : 0 ≤ n) (e : ∀ x, 0 ≤ x → x < n → 0 ≤ f x ∧ f x ≤ B) : 0 ≤ su f n ∧ su f n ≤ B * n := by
  obtain ⟨m, rfl⟩ := Int.eq_ofNat_of_zero_le h
  clear h
  induction m with
  | zero => rw [su_0 (by omega)]; omega
  | succ m ih =>
    have h1 := ih (fun x h0 h1 => e x h0 (by omega))
    have h2 := e m (by omega) (by omega)
    rw [show ((m + 1 : Nat) : Int) = (m : Int) + 1 by omega, su_1 (by omega), Int.mul_add, Int.mul_one]
    omega
theorem su_add {f g : Int → Int} {n : Int} : su (fun x => f x + g x) n = su f n + su g n := by
  by_cases h : 0 ≤ n
  · obtain ⟨m, rfl⟩ := Int.eq_ofNat_of_zero_le h
    clear h
    induction m with
    | zero => rw [su_0 (by omega), su_0 (by omega), su_0 (by omega)]; rfl
    | succ m ih =>
      rw [show ((m + 1 : Nat) : Int) = (m : Int) + 1 by omega, su_1 (by omega), su_1 (by omega), su_1 (by omega), ih]
      omega
  · rw [su_0 (by omega), su_0 (by omega), su_0 (by omega)]; rfl
/-- one place changed -/
theorem su_upd {f g : Int → Int} {n i : Int} (h0 : 0 ≤ i) (h1 : i < n) (e : ∀ x, 0 ≤ x → x < n → x ≠ i → f x = g x) : su f n = su g n + f i - g i := by
  have key : ∀ m : Nat, (i < m → (m : Int) ≤ n → su f m = su g m + f i - g i) ∧ ((m : Int) ≤ i → su f m = su g m) := by
    intro m
    induction m with
    | zero => exact ⟨fun q => by omega, fun _ => by rw [su_0 (by omega), su_0 (by omega)]⟩
    | succ m ih =>
      rw [show ((m + 1 : Nat) : Int) = (m : Int) + 1 by omega]
      constructor
      · intro q1 q2
        rw [su_1 (by omega), su_1 (by omega)]
        by_cases q : (m : Int) = i
        · rw [ih.2 (by omega), q]; omega
        · rw [ih.1 (by omega) (by omega), e m (by omega) (by omega) q]; omega
      · intro q1
        rw [su_1 (by omega), su_1 (by omega), ih.2 (by omega), e m (by omega) (by omega) (by omega)]
  have := key n.toNat
  rw [show ((n.toNat : Nat) : Int) = n by omega] at this
  exact this.1 h1 (by omega)
theorem up_ne {h : am_H} {p q : Nat} {i v : Int} (hq : q ≠ p) : am_up h p i v q = h q := by
  funext j
  unfold am_up
  rw [if_neg (fun e => hq e.1)]
theorem up_same {h : am_H} {p : Nat} {i j v : Int} : am_up h p i v p j = if j = i then v else h p j := by
  unfold am_up
  simp
theorem cp_ne {h : am_H} {a b q : Nat} {sp dp n : Int} (hq : q ≠ b) : am_cp h a sp b dp n q = h q := by
  funext j
  unfold am_cp
  rw [if_neg (fun e => hq e.1)]
theorem cp_same {h : am_H} {a b : Nat} {sp dp n j : Int} : am_cp h a sp b dp n b j = if dp ≤ j ∧ j < dp + n then h a (sp + (j - dp)) else h b j := by
  unfold am_cp
  simp
theorem am_reti {D k : Nat} {args : List am_V} {h h' : am_H} {r : Int} (H : ∃ a h1, am_cd D k args h (some (.inl a)) h1 ∧ (a = r ∧ h1 = h')) : am_cd D k args h (some (.inl r)) h' := by
  obtain ⟨a, h1, w, rfl, rfl⟩ := H; exact w
