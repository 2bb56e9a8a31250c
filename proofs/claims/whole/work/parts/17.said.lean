/-! the asked, their answers, what a village says -/
def OP (N : Int → Int) : Prop := (0 ≤ N 1 ∧ N 1 ≤ 20) ∧ ∀ w, 0 ≤ w → w < N 1 → (0 ≤ N (190 + 3 * w) ∧ N (190 + 3 * w) < N 0) ∧ (0 ≤ N (191 + 3 * w) ∧ N (191 + 3 * w) ≤ 3) ∧ (1 ≤ N (192 + 3 * w) ∧ N (192 + 3 * w) ≤ 9)
def PR (h : am_H) (N : Int → Int) : Prop := h 7 0 = N 1 ∧ ∀ w, 0 ≤ w → w < N 1 → h 8 w = N (190 + 3 * w) ∧ h 9 w = N (191 + 3 * w) ∧ h 10 w = N (192 + 3 * w)
def OA (N : Int → Int) : Prop := (0 ≤ N 3 ∧ N 3 ≤ 60) ∧ ∀ a, 0 ≤ a → a < N 3 → (0 ≤ N (520 + 5 * a) ∧ N (520 + 5 * a) < N 1) ∧ (0 ≤ N (521 + 5 * a) ∧ N (521 + 5 * a) < 6) ∧ (0 ≤ N (522 + 5 * a) ∧ N (522 + 5 * a) < N 2) ∧ (0 ≤ N (523 + 5 * a) ∧ N (523 + 5 * a) ≤ 999) ∧ (-1 ≤ N (524 + 5 * a) ∧ N (524 + 5 * a) ≤ 999)
def AR (h : am_H) (N : Int → Int) : Prop := h 17 1 = N 3 ∧ ∀ a, 0 ≤ a → a < N 3 → h 18 a = N (520 + 5 * a) ∧ h 19 a = N (521 + 5 * a) ∧ h 20 a = N (522 + 5 * a) ∧ h 21 a = N (523 + 5 * a) ∧ h 22 a = N (524 + 5 * a)
theorem PR_of {h h1 : am_H} {N : Int → Int} (e1 : h1 7 = h 7) (e2 : h1 8 = h 8) (e3 : h1 9 = h 9) (e4 : h1 10 = h 10) (H : PR h N) : PR h1 N := by
  unfold PR
  rw [e1, e2, e3, e4]; exact H
theorem AR_of {h h1 : am_H} {N : Int → Int} (e0 : h1 17 1 = h 17 1) (e1 : h1 18 = h 18) (e2 : h1 19 = h 19) (e3 : h1 20 = h 20) (e4 : h1 21 = h 21) (e5 : h1 22 = h 22) (H : AR h N) : AR h1 N := by
  unfold AR
  rw [e0, e1, e2, e3, e4, e5]; exact H
def wt (N : Int → Int) (w : Int) : Int := if N (191 + 3 * w) = 0 then N (192 + 3 * w) else if N (191 + 3 * w) = 1 then 2 * N (192 + 3 * w) else if N (191 + 3 * w) = 2 then N (192 + 3 * w) / 2 + 1 else 4 * N (192 + 3 * w) - 1
theorem wt_bd {N : Int → Int} {w : Int} (O : OP N) (w0 : 0 ≤ w) (w1 : w < N 1) : 1 ≤ wt N w ∧ wt N w ≤ 35 := by
  have := O.2 w w0 w1
  unfold wt
  split
  · omega
  · split
    · omega
    · split <;> omega
theorem S_weightOf {N : Int → Int} {h : am_H} {w : Int} {P : Int → am_H → Prop} (O : OP N) (R : PR h N) (w0 : 0 ≤ w) (w1 : w < N 1) (H : P (wt N w) h) : ∃ a_ h_, am_cd 1 16 [.inr (.inr 7), .inl w] h (some (.inl a_)) h_ ∧ P a_ h_ := by
  have o := O.2 w w0 w1
  have oN := O.1
  obtain ⟨r1, r2, r3⟩ := R.2 w w0 w1
  unfold wt at H
  refine e_Asked_weightOf ?_
  rw [r2, r3]
  refine ⟨by omega, fun c1 => ⟨by omega, ?_⟩, fun c1 => ⟨fun c2 => ⟨⟨by omega, by omega⟩, ?_⟩, fun c2 => ⟨fun c3 => ⟨⟨by omega, by omega, by omega⟩, ?_⟩, fun c3 => ?_⟩⟩⟩
  · rw [if_neg (by omega), if_pos c1] at H; exact H
  · rw [if_neg (by omega), if_neg c1, if_pos c2] at H; exact H
  · rw [if_neg (by omega), if_neg c1, if_neg c2] at H
    rw [show 2 * (2 * N (192 + 3 * w)) - 1 = 4 * N (192 + 3 * w) - 1 by omega]; exact H
  · rw [if_pos (by omega)] at H; exact H
theorem S_MweightOf {N : Int → Int} {h : am_H} {w : Int} {P : Int → am_H → Prop} (O : OP N) (eN : h 57 = N) (w0 : 0 ≤ w) (w1 : w < N 1) (H : P (wt N w) h) : ∃ a_ h_, am_cd 1 78 [.inr (.inr 56), .inl w] h (some (.inl a_)) h_ ∧ P a_ h_ := by
  have o := O.2 w w0 w1
  have oN := O.1
  unfold wt at H
  refine e_Mo_weightOf ?_
  rw [eN]
  refine ⟨⟨by omega, by omega, by omega, by omega, by omega, by omega⟩, fun c1 => ?_, fun c1 => ⟨fun c2 => ⟨by omega, ?_⟩, fun c2 => ⟨fun c3 => ⟨⟨by omega, by omega⟩, ?_⟩, fun c3 => ⟨⟨by omega, by omega⟩, ?_⟩⟩⟩⟩
  · rw [if_pos c1] at H; exact H
  · rw [if_neg c1, if_pos c2] at H; exact H
  · rw [if_neg c1, if_neg c2, if_pos c3] at H; exact H
  · rw [if_neg c1, if_neg c2, if_neg c3] at H; exact H
/-- an answer that is known on a day -/
abbrev kn (N : Int → Int) (d a : Int) : Prop := N (523 + 5 * a) ≤ d ∧ ¬ (0 ≤ N (524 + 5 * a) ∧ N (524 + 5 * a) ≤ d)
abbrev km (N : Int → Int) (d w t a : Int) : Prop := N (520 + 5 * a) = w ∧ N (521 + 5 * a) = t ∧ kn N d a
def la (N : Int → Int) (d w t : Int) : Nat → Int
  | 0 => -1
  | a + 1 => if km N d w t a then N (522 + 5 * a) else la N d w t a
def isL (N : Int → Int) (d w t lo hi r : Int) : Prop := (r = -1 ∧ ∀ a, lo ≤ a → a < hi → ¬ km N d w t a) ∨ ∃ a, lo ≤ a ∧ a < hi ∧ km N d w t a ∧ r = N (522 + 5 * a) ∧ ∀ b, a < b → b < hi → ¬ km N d w t b
theorem isL_one {N : Int → Int} {d w t lo hi r r' : Int} (A : isL N d w t lo hi r) (B : isL N d w t lo hi r') : r = r' := by
  rcases A with ⟨a1, a2⟩ | ⟨a, a1, a2, a3, a4, a5⟩ <;> rcases B with ⟨b1, b2⟩ | ⟨b, b1, b2, b3, b4, b5⟩
  · omega
  · exact absurd b3 (a2 b b1 b2)
  · exact absurd a3 (b2 a a1 a2)
  · rcases (show a < b ∨ b < a ∨ a = b by omega) with q | q | q
    · exact absurd b3 (a5 b q b2)
    · exact absurd a3 (b5 a q a2)
    · rw [a4, b4, q]
theorem la_isL (N : Int → Int) (d w t : Int) : ∀ n : Nat, isL N d w t 0 n (la N d w t n)
  | 0 => .inl ⟨rfl, fun a a0 a1 => by omega⟩
  | n + 1 => by
    have ih := la_isL N d w t n
    unfold la
    by_cases q : km N d w t n
    · rw [if_pos q]
      exact .inr ⟨n, by omega, by omega, q, rfl, fun b b0 b1 => by omega⟩
    · rw [if_neg q]
      rcases ih with ⟨a1, a2⟩ | ⟨a, a1, a2, a3, a4, a5⟩
      · refine .inl ⟨a1, fun a a0 a1 => ?_⟩
        rcases (show a < n ∨ a = n by omega) with k | k
        · exact a2 a a0 k
        · rw [k]; exact q
      · refine .inr ⟨a, a1, by omega, a3, a4, fun b b0 b1 => ?_⟩
        rcases (show b < n ∨ b = n by omega) with k | k
        · exact a5 b b0 k
        · rw [k]; exact q
def lat (N : Int → Int) (d w t : Int) : Int := la N d w t (N 3).toNat
theorem lat_isL {N : Int → Int} {d w t : Int} (O : OA N) : isL N d w t 0 (N 3) (lat N d w t) := by
  have := la_isL N d w t (N 3).toNat
  rw [show (((N 3).toNat : Nat) : Int) = N 3 by have := O.1; omega] at this
  exact this
theorem lat_bd {N : Int → Int} {d w t : Int} (O : OA N) : lat N d w t = -1 ∨ (0 ≤ lat N d w t ∧ lat N d w t < N 2) := by
  rcases lat_isL (d := d) (w := w) (t := t) O with ⟨a, -⟩ | ⟨a, a1, a2, a3, a4, a5⟩
  · exact .inl a
  · rw [a4]; exact .inr (O.2 a a1 a2).2.2.1
/-- the sum of weights for a form -/
def ws (N : Int → Int) (d v t f : Int) : Int := su (fun w => if N (190 + 3 * w) = v ∧ lat N d w t = f then wt N w else 0) (N 1)
theorem ws_bd {N : Int → Int} {d v t f : Int} (O : OP N) : 0 ≤ ws N d v t f ∧ ws N d v t f ≤ 700 := by
  have := su_bd (f := fun w => if N (190 + 3 * w) = v ∧ lat N d w t = f then wt N w else 0) (B := 35) (n := N 1) (by omega) O.1.1 (fun w w0 w1 => by have := wt_bd O w0 w1; split <;> omega)
  have := O.1
  unfold ws
  omega
theorem ws_0 {N : Int → Int} {d v t f : Int} (O : OP N) (A : OA N) (hf : N 2 ≤ f) (h2 : 0 ≤ N 2) : ws N d v t f = 0 := by
  unfold ws
  rw [su_congr (g := fun _ => 0) (fun w w0 w1 => if_neg (fun q => by have := lat_bd (d := d) (w := w) (t := t) A; omega))]
  exact su_ind (q := fun _ t => t = 0) rfl (fun x t _ e => by omega) O.1.1
def sdm (g : Int → Int) : Nat → Int
  | 0 => 0
  | n + 1 => max (sdm g n) (g n)
def sdb (g : Int → Int) : Nat → Int
  | 0 => -1
  | n + 1 => if sdm g n < g n then n else sdb g n
theorem sdm_s {g : Int → Int} {x : Int} (h : 0 ≤ x) : sdm g (x + 1).toNat = max (sdm g x.toNat) (g x) := by
  rw [show (x + 1).toNat = x.toNat + 1 by omega]
  show max (sdm g x.toNat) (g (x.toNat : Int)) = _
  rw [show ((x.toNat : Nat) : Int) = x by omega]
theorem sdb_s {g : Int → Int} {x : Int} (h : 0 ≤ x) : sdb g (x + 1).toNat = if sdm g x.toNat < g x then x else sdb g x.toNat := by
  rw [show (x + 1).toNat = x.toNat + 1 by omega]
  show (if sdm g x.toNat < g (x.toNat : Int) then ((x.toNat : Nat) : Int) else sdb g x.toNat) = _
  rw [show ((x.toNat : Nat) : Int) = x by omega]
theorem sdm_0 (g : Int → Int) : ∀ n, 0 ≤ sdm g n
  | 0 => Int.le_refl _
  | n + 1 => by have := sdm_0 g n; show 0 ≤ max (sdm g n) (g n); omega
theorem sdb_bd (g : Int → Int) : ∀ n : Nat, sdb g n = -1 ∨ (0 ≤ sdb g n ∧ sdb g n < n)
  | 0 => .inl rfl
  | n + 1 => by
    have := sdb_bd g n
    unfold sdb
    split <;> omega
theorem sdb_stop {g : Int → Int} {m : Nat} (h : ∀ x : Int, m ≤ x → g x = 0) : ∀ k : Nat, sdb g (m + k) = sdb g m
  | 0 => rfl
  | k + 1 => by
    show (if sdm g (m + k) < g ((m + k : Nat) : Int) then ((m + k : Nat) : Int) else sdb g (m + k)) = _
    have := sdm_0 g (m + k)
    rw [h _ (by omega), if_neg (by omega)]
    exact sdb_stop h k
theorem sdm_bd {g : Int → Int} {B : Int} (hB : 0 ≤ B) (hg : ∀ x, g x ≤ B) : ∀ n, sdm g n ≤ B
  | 0 => hB
  | n + 1 => by have := sdm_bd hB hg n; have := hg n; show max (sdm g n) (g n) ≤ B; omega
/-- what a village says of a thing on a day; -1: nothing -/
def sd (N : Int → Int) (d v t : Int) : Int := sdb (ws N d v t) (N 2).toNat
theorem sd_bd {N : Int → Int} {d v t : Int} (h2 : 0 ≤ N 2) : sd N d v t = -1 ∨ (0 ≤ sd N d v t ∧ sd N d v t < N 2) := by
  have := sdb_bd (ws N d v t) (N 2).toNat
  unfold sd
  omega
/-! Arrays.fill -/
theorem L_fill {h0 : am_H} {p0 n0 : Nat} {x1 : Int} {P : am_H → Prop} (hal : ∀ h : am_H, am_al h p0 = some n0) (hlo : p0 < 1000) (hn : n0 < 10000) (H : ∀ h1, (∀ p, p ≠ p0 → h1 p = h0 p) → (∀ j, 0 ≤ j → j < (n0 : Int) → h1 p0 j = x1) → P h1) : ∀ x2 h, 0 ≤ x2 → x2 ≤ (n0 : Int) → (∀ p, p ≠ p0 → h p = h0 p) → (∀ j, 0 ≤ j → j < x2 → h p0 j = x1) → am_x (am_cd 0) 90 (am_qv P) 0 5 [some (.inr (.inr p0)), some (.inl x1), some (.inl x2), some (.inl (n0 : Int))] [] h := by
  refine upto (n0 : Int) (fun x2 ih h a0 a1 a2 a3 => ?_)
  refine g_Arrays_fill_5 p0 n0 hal hlo ⟨fun hc => H h a2 (fun j j0 j1 => a3 j j0 (by omega)), fun hc => ⟨⟨by omega, by omega⟩, ih hc _ (by omega) (by omega) (fun p hp => (up_ne hp).trans (a2 p hp)) (fun j j0 j1 => ?_)⟩⟩
  rw [up_same]
  by_cases q : j = x2
  · rw [if_pos q]
  · rw [if_neg q]; exact a3 j j0 (by omega)
theorem S_fill {h : am_H} {p0 n0 : Nat} {x1 : Int} {P : am_H → Prop} (hal : ∀ h : am_H, am_al h p0 = some n0) (hlo : p0 < 1000) (hn : n0 < 10000) (H : ∀ h1, (∀ p, p ≠ p0 → h1 p = h p) → (∀ j, 0 ≤ j → j < (n0 : Int) → h1 p0 j = x1) → P h1) : ∃ h_, am_cd 1 90 [.inr (.inr p0), .inl x1] h none h_ ∧ P h_ :=
  e_Arrays_fill p0 n0 hal hlo (L_fill hal hlo hn H 0 h (by omega) (by omega) (fun _ _ => rfl) (fun j _ _ => by omega))
/-! the class: sums from the last answer back -/
def sJ (N : Int → Int) (d v t A : Int) (hd : Int) (S : Int → Int) : Prop := ∃ lb : Int → Int, (∀ w, 0 ≤ w → w < N 1 → isL N d w t A (N 3) (lb w) ∧ (tb hd w ↔ lb w ≠ -1)) ∧ ∀ f, 0 ≤ f → f < 30 → S f = su (fun w => if N (190 + 3 * w) = v ∧ lb w = f then wt N w else 0) (N 1)
theorem isL_skip {N : Int → Int} {d w t A r : Int} (h : ¬ km N d w t A) (B : isL N d w t (A + 1) (N 3) r) : isL N d w t A (N 3) r := by
  rcases B with ⟨b1, b2⟩ | ⟨b, b1, b2, b3, b4, b5⟩
  · refine .inl ⟨b1, fun a a0 a1 => ?_⟩
    rcases (show a = A ∨ A + 1 ≤ a by omega) with k | k
    · rw [k]; exact h
    · exact b2 a k a1
  · exact .inr ⟨b, by omega, b2, b3, b4, b5⟩
theorem isL_keep {N : Int → Int} {d w t A r : Int} (hr : r ≠ -1) (B : isL N d w t (A + 1) (N 3) r) : isL N d w t A (N 3) r := by
  rcases B with ⟨b1, b2⟩ | ⟨b, b1, b2, b3, b4, b5⟩
  · exact absurd b1 hr
  · exact .inr ⟨b, by omega, b2, b3, b4, b5⟩
theorem isL_new {N : Int → Int} {d w t A r : Int} (hA : A < N 3) (h : km N d w t A) (hr : r = -1) (B : isL N d w t (A + 1) (N 3) r) (C : OA N) (A0 : 0 ≤ A) : isL N d w t A (N 3) (N (522 + 5 * A)) := by
  rcases B with ⟨b1, b2⟩ | ⟨b, b1, b2, b3, b4, b5⟩
  · exact .inr ⟨A, by omega, hA, h, rfl, fun b b0 b1 => b2 b (by omega) b1⟩
  · have := (C.2 b (by omega) b2).2.2.1
    omega
/-- an answer that changes nothing -/
theorem sJ_skip {N : Int → Int} {d v t A hd : Int} {S : Int → Int} (h : ∀ w, km N d w t A → tb hd w) (J : sJ N d v t (A + 1) hd S) (C : OA N) (A0 : 0 ≤ A) (A1 : A < N 3) : sJ N d v t A hd S := by
  obtain ⟨lb, j1, j2⟩ := J
  refine ⟨lb, fun w w0 w1 => ⟨?_, (j1 w w0 w1).2⟩, j2⟩
  by_cases q : km N d w t A
  · exact isL_keep ((j1 w w0 w1).2.mp (h w q)) (j1 w w0 w1).1
  · exact isL_skip q (j1 w w0 w1).1
theorem sJ_new {N : Int → Int} {d v t A hd : Int} {S S' : Int → Int} (O : OP N) (C : OA N) (A0 : 0 ≤ A) (A1 : A < N 3) (h1 : N (521 + 5 * A) = t) (h2 : kn N d A) (h3 : ¬ tb hd (N (520 + 5 * A))) (J : sJ N d v t (A + 1) hd S) (hS : ∀ f, 0 ≤ f → f < 30 → S' f = S f + if N (190 + 3 * N (520 + 5 * A)) = v ∧ f = N (522 + 5 * A) then wt N (N (520 + 5 * A)) else 0) : sJ N d v t A (am_or hd (am_shl 1 (N (520 + 5 * A)))) S' := by
  obtain ⟨lb, j1, j2⟩ := J
  have c := C.2 A A0 A1
  have oN := O.1
  have lw := j1 (N (520 + 5 * A)) c.1.1 c.1.2
  have lm : lb (N (520 + 5 * A)) = -1 := by
    by_cases q : lb (N (520 + 5 * A)) = -1
    · exact q
    · exact absurd (lw.2.mpr q) h3
  refine ⟨fun w => if w = N (520 + 5 * A) then N (522 + 5 * A) else lb w, fun w w0 w1 => ?_, fun f f0 f1 => ?_⟩
  · have := j1 w w0 w1
    rw [tb_add w0 (by omega) c.1.1 (by omega)]
    dsimp only
    by_cases q : w = N (520 + 5 * A)
    · subst q
      rw [if_pos rfl]
      exact ⟨isL_new A1 ⟨rfl, h1, h2⟩ lm this.1 C A0, fun _ => by omega, fun _ => .inr rfl⟩
    · rw [if_neg q]
      refine ⟨isL_skip (fun k => q k.1.symm) this.1, ?_⟩
      rw [← this.2]
      exact ⟨fun k => by rcases k with k | k; exact k; exact absurd k q, .inl⟩
  · rw [hS f f0 f1, j2 f f0 f1]
    have := su_upd (f := fun w => if N (190 + 3 * w) = v ∧ (if w = N (520 + 5 * A) then N (522 + 5 * A) else lb w) = f then wt N w else 0) (g := fun w => if N (190 + 3 * w) = v ∧ lb w = f then wt N w else 0) (n := N 1) c.1.1 c.1.2 (fun x _ _ q => by simp only [q, if_false])
    rw [this, if_pos rfl, lm]
    have e : ¬ (N (190 + 3 * N (520 + 5 * A)) = v ∧ -1 = f) := by omega
    rw [if_neg e]
    by_cases k : N (190 + 3 * N (520 + 5 * A)) = v ∧ f = N (522 + 5 * A)
    · rw [if_pos k, if_pos ⟨k.1, k.2.symm⟩]; omega
    · rw [if_neg k, if_neg (fun y => k ⟨y.1, y.2.symm⟩)]; omega
theorem sJ_end {N : Int → Int} {d v t hd : Int} {S : Int → Int} (C : OA N) (J : sJ N d v t 0 hd S) {f : Int} (f0 : 0 ≤ f) (f1 : f < 30) : S f = ws N d v t f := by
  obtain ⟨lb, j1, j2⟩ := J
  rw [j2 f f0 f1]
  refine su_congr (fun w w0 w1 => ?_)
  rw [isL_one (j1 w w0 w1).1 (lat_isL C)]
theorem L_sumWeights {N : Int → Int} {h0 : am_H} {v t d : Int} {P : am_H → Prop} (O : OP N) (F : OF N) (C : OA N) (PP : PR h0 N) (AA : AR h0 N) (H : ∀ h1, (∀ p, p ≠ 23 → h1 p = h0 p) → (∀ f, 0 ≤ f → f < 30 → h1 23 f = ws N d v t f) → P h1) : ∀ x5 x4 h, -1 ≤ x5 → x5 < N 3 → (∀ p, p ≠ 23 → h p = h0 p) → sJ N d v t (x5 + 1) x4 (h 23) → am_x (am_cd 1) 92 (am_qv P) 0 19 [some (.inr (.inr 17)), some (.inl v), some (.inl t), some (.inl d), some (.inl x4), some (.inl x5), none] [] h := by
  have oN := O.1
  have cN := C.1
  have fN := F.1
  refine downto 0 (fun x5 ih x4 h a0 a1 a2 J => ?_)
  have R : PR h N := PR_of (a2 _ (by decide)) (a2 _ (by decide)) (a2 _ (by decide)) (a2 _ (by decide)) PP
  have B : AR h N := AR_of (by rw [a2 17 (by decide)]) (a2 _ (by decide)) (a2 _ (by decide)) (a2 _ (by decide)) (a2 _ (by decide)) (a2 _ (by decide)) AA
  refine g_Answers_sumWeights_19 ⟨fun hc => ?_, fun hc => ?_⟩
  · refine H h a2 (fun f f0 f1 => ?_)
    rw [show x5 + 1 = 0 by omega] at J
    exact sJ_end C J f0 f1
  · obtain ⟨r1, r2, r3, r4, r5⟩ := B.2 x5 hc a1
    have c := C.2 x5 hc a1
    have p := R.2 _ c.1.1 c.1.2
    rw [r1, r2, r3, r4, r5, p.1]
    have nx : ∀ x4', sJ N d v t x5 x4' (h 23) → am_x (am_cd 1) 92 (am_qv P) 0 19 [some (.inr (.inr 17)), some (.inl v), some (.inl t), some (.inl d), some (.inl x4'), some (.inl (x5 + (-1))), none] [] h := fun x4' J' => ih hc _ _ (by omega) (by omega) a2 (by rw [show x5 + (-1) + 1 = x5 by omega]; exact J')
    refine ⟨by omega, fun c1 => ⟨by omega, nx _ (sJ_skip (fun w k => absurd k.2.1 c1) J C hc a1)⟩, fun c1 => ⟨fun c2 => ⟨by omega, nx _ (sJ_skip (fun w k => by rw [← k.1]; exact c2) J C hc a1)⟩, fun c2 => ⟨fun c3 => ⟨by omega, fun c4 => ⟨by omega, nx _ ?_⟩, fun c4 => ⟨by omega, ?_⟩⟩, fun c3 => ⟨by omega, nx _ (sJ_skip (fun w k => ?_) J C hc a1)⟩⟩⟩⟩
    · refine sJ_new O C hc a1 c1 ⟨c3.1, by omega⟩ (fun k => k c2) J (fun f f0 f1 => ?_)
      rw [if_neg (fun y => c4 y.1)]; omega
    · have b : h 23 (N (522 + 5 * x5)) ≤ 700 ∧ 0 ≤ h 23 (N (522 + 5 * x5)) := by
        obtain ⟨lb, j1, j2⟩ := J
        rw [j2 _ (by omega) (by omega)]
        have := su_bd (f := fun w => if N (190 + 3 * w) = v ∧ lb w = N (522 + 5 * x5) then wt N w else 0) (B := 35) (n := N 1) (by omega) oN.1 (fun w w0 w1 => by have := wt_bd O w0 w1; split <;> omega)
        omega
      have wb := wt_bd O c.1.1 c.1.2
      refine am_lifti (Nat.le_of_ble_eq_true rfl) (S_weightOf O R c.1.1 c.1.2 ⟨⟨by omega, by omega⟩, ih hc _ _ (by omega) (by omega) (fun p hp => (up_ne hp).trans (a2 p hp)) ?_⟩)
      rw [show x5 + (-1) + 1 = x5 by omega]
      refine sJ_new O C hc a1 c1 ⟨c3.1, by omega⟩ (fun k => k c2) J (fun f f0 f1 => ?_)
      rw [up_same]
      by_cases q : f = N (522 + 5 * x5)
      · rw [if_pos q, if_pos ⟨c4, q⟩, q]
      · rw [if_neg q, if_neg (fun y => q y.2)]; omega
    · exact absurd ⟨k.2.2.1, by have := k.2.2.2; omega⟩ c3
theorem S_sumWeights {N : Int → Int} {h : am_H} {v t d : Int} {P : am_H → Prop} (O : OP N) (F : OF N) (C : OA N) (PP : PR h N) (AA : AR h N) (H : ∀ h1, (∀ p, p ≠ 23 → h1 p = h p) → (∀ f, 0 ≤ f → f < 30 → h1 23 f = ws N d v t f) → P h1) : ∃ h_, am_cd 2 92 [.inr (.inr 17), .inl v, .inl t, .inl d] h none h_ ∧ P h_ := by
  have cN := C.1
  refine e_Answers_sumWeights (am_liftv (Nat.le_of_ble_eq_true rfl) (S_fill al23 (by decide) (by decide) (fun h1 f1 z1 => ?_)))
  have e : h1 17 1 = N 3 := by rw [f1 17 (by decide)]; exact AA.1
  rw [e]
  refine ⟨by omega, L_sumWeights O F C PP AA H (N 3 - 1) 0 h1 (by omega) (by omega) f1 ?_⟩
  refine ⟨fun _ => -1, fun w w0 w1 => ⟨.inl ⟨rfl, fun a a0 a1 => by omega⟩, fun q => absurd q tb_zero, fun q => absurd rfl q⟩, fun f f0 f1 => ?_⟩
  rw [z1 f f0 f1, su_congr (g := fun _ => 0) (fun w w0 w1 => if_neg (fun q => by have : -1 = f := q.2; omega))]
  exact (su_ind (q := fun _ t => t = 0) rfl (fun x t _ e => by omega) O.1.1).symm
theorem L_saidBy {h : am_H} {g : Int → Int} {P : Int → am_H → Prop} (hg : ∀ f, 0 ≤ f → f < 30 → h 23 f = g f) (H : P (sdb g 30) h) : ∀ x6, 0 ≤ x6 → x6 ≤ 30 → am_x (am_cd 2) 139 (am_qi P) 0 16 [some (.inr (.inr 17)), none, none, none, some (.inl (sdb g x6.toNat)), some (.inl (sdm g x6.toNat)), some (.inl x6)] [] h := by
  refine upto 30 (fun x6 ih a0 a1 => ?_)
  refine g_Answers_saidBy_16 ⟨fun hc => ?_, fun hc => ?_⟩
  · rw [show x6 = 30 by omega]; exact H
  · have e := hg x6 a0 hc
    have i := ih hc (by omega) (by omega)
    rw [sdb_s a0, sdm_s a0] at i
    rw [e]
    refine ⟨by omega, fun c => ⟨by omega, ?_⟩, fun c => ⟨by omega, ?_⟩⟩
    · rw [if_neg (by omega), show max (sdm g x6.toNat) (g x6) = sdm g x6.toNat by omega] at i; exact i
    · rw [if_pos c, show max (sdm g x6.toNat) (g x6) = g x6 by omega] at i; exact i
theorem S_saidBy {N : Int → Int} {h : am_H} {v t d : Int} {P : Int → am_H → Prop} (O : OP N) (F : OF N) (C : OA N) (PP : PR h N) (AA : AR h N) (H : ∀ h1, (∀ p, p ≠ 23 → h1 p = h p) → P (sd N d v t) h1) : ∃ a_ h_, am_cd 3 139 [.inr (.inr 17), .inl v, .inl t, .inl d] h (some (.inl a_)) h_ ∧ P a_ h_ := by
  have fN := F.1
  refine e_Answers_saidBy (am_liftv (Nat.le_of_ble_eq_true rfl) (S_sumWeights O F C PP AA (fun h1 f1 z1 => L_saidBy z1 ?_ 0 (by omega) (by omega))))
  have := sdb_stop (g := ws N d v t) (m := (N 2).toNat) (fun x hx => ws_0 O C (by omega) fN.1) (30 - (N 2).toNat)
  rw [show (N 2).toNat + (30 - (N 2).toNat) = 30 by omega] at this
  rw [this]
  exact H h1 f1
theorem S_weightFor {N : Int → Int} {h : am_H} {v t f d : Int} {P : Int → am_H → Prop} (O : OP N) (F : OF N) (C : OA N) (PP : PR h N) (AA : AR h N) (f0 : 0 ≤ f) (f1 : f < 30) (H : ∀ h1, (∀ p, p ≠ 23 → h1 p = h p) → P (ws N d v t f) h1) : ∃ a_ h_, am_cd 3 138 [.inr (.inr 17), .inl v, .inl t, .inl f, .inl d] h (some (.inl a_)) h_ ∧ P a_ h_ :=
  e_Answers_weightFor (am_liftv (Nat.le_of_ble_eq_true rfl) (S_sumWeights O F C PP AA (fun h1 g1 z1 => ⟨by omega, by rw [z1 f f0 f1]; exact H h1 g1⟩)))
