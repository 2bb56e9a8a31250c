/-! locals; numbers; what stays -/
def spl (ad : Nat → Nat) (L : am_L) : List (Nat × Value) := (List.range L.length).filterMap (fun i => (am_g L i).map (fun v => (i, sv ad v)))
theorem am_g_len : ∀ {L : am_L} {i : Nat} {v : am_V}, am_g L i = some v → i < L.length
  | [], _, _, h => by cases h
  | o :: l, 0, v, _ => by simp
  | o :: l, n + 1, v, h => by
    have := am_g_len (L := l) (i := n) (v := v) h
    simp; exact this
theorem spl_mem {ad : Nat → Nat} {L : am_L} {q : Nat × Value} : q ∈ spl ad L ↔ ∃ v, am_g L q.1 = some v ∧ q.2 = sv ad v := by
  unfold spl
  rw [List.mem_filterMap]
  constructor
  · rintro ⟨i, hi, h⟩
    cases hg : am_g L i with
    | none => rw [hg] at h; cases h
    | some v =>
      rw [hg] at h
      cases h
      exact ⟨v, hg, rfl⟩
  · rintro ⟨v, hv, h2⟩
    refine ⟨q.1, List.mem_range.mpr (am_g_len hv), ?_⟩
    rw [hv]
    show some (q.1, sv ad v) = some q
    rw [← h2]
def slr (ad : Nat → Nat) (ls : Array Slot) (L : am_L) : Prop := lv_has ls L.length (spl ad L)
theorem slr_at {ad : Nat → Nat} {ls : Array Slot} {L : am_L} {i : Nat} {v : am_V} (h : slr ad ls L) (hg : am_g L i = some v) : ls[i]? = some (.val (sv ad v)) := h.2.2 (i, sv ad v) (spl_mem.mpr ⟨v, hg, rfl⟩)
theorem sv_cat (ad : Nat → Nat) (v : am_V) : (sv ad v).category = am_c v := by
  rcases v with z | y | q <;> rfl
theorem sv_wd (ad : Nat → Nat) (st : List am_V) : ((st.map (sv ad)).map fun v => v.category).sum = am_wd st := by
  induction st with
  | nil => rfl
  | cons v st ih =>
    show (sv ad v).category + ((st.map (sv ad)).map fun v => v.category).sum = am_c v + am_wd st
    rw [ih, sv_cat]
theorem slr_store {ad : Nat → Nat} {ls : Array Slot} {L : am_L} {t : Nat} {v : am_V} (hs : am_s1 L t) (h : lv_has ls L.length ((t, sv ad v) :: (spl ad L).filter (fun q => !(q.1 == t) && !(q.1 + 1 == t && q.2.category == 2)))) : slr ad ls (am_p L t v) := by
  unfold slr
  rw [am_p_len]
  refine ⟨h.1, h.2.1, fun q hq => ?_⟩
  obtain ⟨w, hw, e⟩ := spl_mem.mp hq
  rw [am_p_get L t v _ hs.1] at hw
  by_cases z : q.1 = t
  · rw [if_pos z] at hw
    cases hw
    have := h.2.2 (t, sv ad v) List.mem_cons_self
    rw [z, e]; exact this
  · rw [if_neg z] at hw
    refine h.2.2 q (List.mem_cons_of_mem _ (List.mem_filter.mpr ⟨spl_mem.mpr ⟨w, hw, e⟩, ?_⟩))
    have z1 : (q.1 == t) = false := by simpa using z
    rw [z1]
    by_cases y : q.1 + 1 = t
    · have hn := hs.2
      rw [show t - 1 = q.1 by omega, hw] at hn
      have : (q.2.category == 2) = false := by
        rw [e, sv_cat]
        rcases w with a | a | a
        · rfl
        · exact hn.elim
        · rfl
      rw [this]; simp
    · have : (q.1 + 1 == t) = false := by simpa using y
      rw [this]; rfl
theorem sv_cg {ad ad' : Nat → Nat} {h : am_H} {v : am_V} (k : sok h v) (e : ∀ q, q < am_n h ∨ 2000 ≤ q → ad' q = ad q) : sv ad' v = sv ad v := by
  rcases v with z | y | q
  · rfl
  · rfl
  · show Value.ref (ad' q) = Value.ref (ad q)
    rw [e q k]
theorem sv_map {ad ad' : Nat → Nat} {h : am_H} {st : List am_V} (k : ∀ v ∈ st, sok h v) (e : ∀ q, q < am_n h ∨ 2000 ≤ q → ad' q = ad q) : st.map (sv ad') = st.map (sv ad) := List.map_congr_left (fun v hv => sv_cg (k v hv) e)
theorem slr_cg {ad ad' : Nat → Nat} {h : am_H} {ls : Array Slot} {L : am_L} (k : ∀ i v, am_g L i = some v → sok h v) (e : ∀ q, q < am_n h ∨ 2000 ≤ q → ad' q = ad q) (H : slr ad ls L) : slr ad' ls L := by
  refine ⟨H.1, H.2.1, fun q hq => ?_⟩
  obtain ⟨v, hv, e2⟩ := spl_mem.mp hq
  rw [sv_cg (k _ v hv) e] at e2
  exact H.2.2 q (spl_mem.mpr ⟨v, hv, e2⟩)
theorem sok_up {h h' : am_H} {v : am_V} (k : sok h v) (e : am_n h ≤ am_n h') : sok h' v := by
  rcases v with z | y | q
  · exact k
  · trivial
  · rcases k with w | w
    · exact .inl (by omega)
    · exact .inr w
theorem sI (z : Int) (h : am_ok z) : (Int32.ofInt z).toInt = z := by
  have e : (Int32.size : Int) = 4294967296 := rfl
  have h1 := h.1
  have h2 := h.2
  rw [Int32.toInt_ofInt]; exact Int.bmod_eq_of_le (by omega) (by omega)
theorem sI_r (x : Int32) : Int32.ofInt x.toInt = x := Int32.ofInt_toInt x
theorem sI_ok (x : Int32) : am_ok x.toInt := by
  have h1 := Int32.le_toInt x
  have h2 := Int32.toInt_lt x
  constructor <;> omega
theorem sI_lt {a b : Int} (ha : am_ok a) (hb : am_ok b) : Int32.ofInt a < Int32.ofInt b ↔ a < b := by rw [Int32.lt_iff_toInt_lt, sI a ha, sI b hb]
theorem sI_le {a b : Int} (ha : am_ok a) (hb : am_ok b) : Int32.ofInt a ≤ Int32.ofInt b ↔ a ≤ b := by rw [Int32.le_iff_toInt_le, sI a ha, sI b hb]
theorem sI_eq {a b : Int} (ha : am_ok a) (hb : am_ok b) : Int32.ofInt a = Int32.ofInt b ↔ a = b := by
  constructor
  · intro e; rw [← sI a ha, ← sI b hb, e]
  · intro e; rw [e]
theorem sI_nI {a : Int} (h : 0 ≤ a) : Int32.ofInt a = nI a.toNat := by
  unfold nI
  conv => lhs; rw [← Int.toNat_of_nonneg h]
  exact Int32.ofInt_eq_ofNat
theorem sI_cl {a : Int} (h : 0 ≤ a) (ha : am_ok a) : (Int32.ofInt a).toNatClampNeg = a.toNat := by rw [sI_nI h]; exact nI_clamp (by have := ha.2; omega)
theorem sI_in {a : Int} {n : Nat} (ha : am_ok a) (h0 : 0 ≤ a) (h1 : a < (n : Int)) : vp_in (Int32.ofInt a) n := by rw [vp_in_iff, sI a ha]; exact ⟨h0, h1⟩
theorem sI_div {a c : Int} (ha : am_ok a) (hc : am_ok c) (h0 : 0 ≤ a) (h1 : 0 < c) : Int32.ofInt a / Int32.ofInt c = Int32.ofInt (a / c) := by
  rw [sI_nI h0, sI_nI (by omega : 0 ≤ c), sI_nI (Int.ediv_nonneg h0 (by omega)), pk_div (by have := ha.2; omega) (by omega) (by have := hc.2; omega)]
  congr 1
  have e : ((a.toNat / c.toNat : Nat) : Int) = a / c := by rw [Int.natCast_ediv, Int.toNat_of_nonneg h0, Int.toNat_of_nonneg (by omega : 0 ≤ c)]
  have := Int.ediv_nonneg h0 (show 0 ≤ c by omega)
  omega
theorem sI_rem {a c : Int} (ha : am_ok a) (hc : am_ok c) (h0 : 0 ≤ a) (h1 : 0 < c) : Int32.ofInt a - Int32.ofInt a / Int32.ofInt c * Int32.ofInt c = Int32.ofInt (a % c) := by
  rw [sI_nI h0, sI_nI (by omega : 0 ≤ c), sI_nI (Int.emod_nonneg a (by omega)), pk_rem (by have := ha.2; omega) (by omega) (by have := hc.2; omega)]
  congr 1
  have e : ((a.toNat % c.toNat : Nat) : Int) = a % c := by rw [Int.natCast_emod, Int.toNat_of_nonneg h0, Int.toNat_of_nonneg (by omega : 0 ≤ c)]
  have := Int.emod_nonneg a (show c ≠ 0 by omega)
  omega
