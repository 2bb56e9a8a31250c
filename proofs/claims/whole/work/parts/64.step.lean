/-! from the abstract machine's step to the kit's, an instruction a row -/
def so_F (p : Program) (R : Room) (s : State) (m : MethodId) (args : Array Value) (c : Code) (k d mc ms L : Nat) (G : va_G) (cA : ClassId) (ad0 : Nat → Nat) (A : Nat → Prop) (xs : Int → Int) : Prop := (p.tables.exec = Jvm.exec ∧ c.code = am_by k ∧ c.maxLocals = am_ml k ∧ s.vm.findClass (am_on (am_ow k)) = some m.cls ∧ ∀ w ∈ am_gw, w.before args s = true) ∧ (va_K G am_cls [(cA, .int)] s ∧ (∀ q, s.heap.size ≤ q → A q) ∧ fx ad0 A L xs s s.heap) ∧ d + 1 ≤ R.frames ∧ 64 * (d + 1) ≤ R.locals ∧ mc ≤ R.cells ∧ ms ≤ R.slots
def so_I (s : State) (mc ms L : Nat) (G : va_G) (cA : ClassId) (ad0 : Nat → Nat) (h0 : am_H) (A : Nat → Prop) (xs : Int → Int) (b cells slots : Nat) (h : am_H) (ad : Nat → Nat) (H : Heap) (locs : List Loc) : Prop := hwf h L xs ∧ (am_n h0 ≤ am_n h ∧ ∀ q, q < am_n h0 ∨ 2000 ≤ q → ad q = ad0 q) ∧ (va_P G am_cls (ww ad cA h) H ∧ va_D A (ww ad cA h) ∧ va_S A s.heap H locs) ∧ cells + b ≤ mc ∧ slots + 4 * b ≤ ms
def so_L (k : Nat) (ad : Nat → Nat) (h : am_H) (lsC : Array Slot) (ls : am_L) (st : List am_V) : Prop := (slr ad lsC ls ∧ ls.length = am_ml k ∧ ∀ i v, am_g ls i = some v → sok h v) ∧ ∀ v ∈ st, sok h v
def so_K (p : Program) (l : Launch) (e : Env) (R : Room) (s : State) (m : MethodId) (args : Array Value) (below : List Frame) (meth : Method) (c : Code) (k mc ms L : Nat) (G : va_G) (cA : ClassId) (ad0 : Nat → Nat) (h0 : am_H) (A : Nat → Prop) (xs : Int → Int) (Z : State → Prop) (K : Nat → Nat → am_L → List am_V → am_H → Prop) : Prop := ∀ (b pc : Nat) (ls : am_L) (st : List am_V) (h : am_H), K b pc ls st h → ∀ (ad : Nat → Nat) (H : Heap) (locs : List Loc) (cells slots : Nat) (lsC : Array Slot), so_I s mc ms L G cA ad0 h0 A xs b cells slots h ad H locs → so_L k ad h lsC ls st → W p l e R s m args below meth c H locs cells slots Z (F0 m pc lsC (st.map (sv ad)))
theorem so_Lp {k : Nat} {ad : Nat → Nat} {h : am_H} {lsC : Array Slot} {ls : am_L} {st st' : List am_V} {v : am_V} (X : so_L k ad h lsC ls st') (hv : sok h v) (hs : ∀ w ∈ st, w ∈ st') : so_L k ad h lsC ls (v :: st) := ⟨X.1, fun w hw => by
  rcases List.mem_cons.mp hw with z | z
  · rw [z]; exact hv
  · exact X.2 w (hs w z)⟩
theorem so_Ld {k : Nat} {ad : Nat → Nat} {h : am_H} {lsC : Array Slot} {ls : am_L} {st st' : List am_V} (X : so_L k ad h lsC ls st') (hs : ∀ w ∈ st, w ∈ st') : so_L k ad h lsC ls st := ⟨X.1, fun w hw => X.2 w (hs w hw)⟩
theorem mem1 {α : Type} {a : α} {l : List α} : ∀ w ∈ l, w ∈ a :: l := fun _ h => List.mem_cons_of_mem _ h
theorem mem2 {α : Type} {a b : α} {l : List α} : ∀ w ∈ l, w ∈ a :: b :: l := fun _ h => List.mem_cons_of_mem _ (List.mem_cons_of_mem _ h)
theorem mem3 {α : Type} {a b c : α} {l : List α} : ∀ w ∈ l, w ∈ a :: b :: c :: l := fun _ h => List.mem_cons_of_mem _ (mem2 _ h)
theorem so_h0 {k : Nat} {ad : Nat → Nat} {h : am_H} {lsC : Array Slot} {ls : am_L} {st : List am_V} {v : am_V} (X : so_L k ad h lsC ls (v :: st)) : sok h v := X.2 v List.mem_cons_self
theorem so_h1 {k : Nat} {ad : Nat → Nat} {h : am_H} {lsC : Array Slot} {ls : am_L} {st : List am_V} {v w : am_V} (X : so_L k ad h lsC ls (w :: v :: st)) : sok h v := X.2 v (List.mem_cons_of_mem _ List.mem_cons_self)
theorem so_h2 {k : Nat} {ad : Nat → Nat} {h : am_H} {lsC : Array Slot} {ls : am_L} {st : List am_V} {u v w : am_V} (X : so_L k ad h lsC ls (w :: u :: v :: st)) : sok h v := X.2 v (List.mem_cons_of_mem _ (List.mem_cons_of_mem _ List.mem_cons_self))
theorem s_iconst {p : Program} {l : Launch} {e : Env} {R : Room} {s : State} {m : MethodId} {args : Array Value} {below : List Frame} {meth : Method} {c : Code} {k d mc ms L : Nat} {G : va_G} {cA : ClassId} {ad0 : Nat → Nat} {h0 : am_H} {A : Nat → Prop} {xs : Int → Int} {Z : State → Prop} {K : Nat → Nat → am_L → List am_V → am_H → Prop} {b pc cells slots : Nat} {ls : am_L} {st : List am_V} {h : am_H} {ad : Nat → Nat} {H : Heap} {locs : List Loc} {lsC : Array Slot} {z x : Int} (F : so_F p R s m args c k d mc ms L G cA ad0 A xs) (KK : so_K p l e R s m args below meth c k mc ms L G cA ad0 h0 A xs Z K) (I : so_I s mc ms L G cA ad0 h0 A xs b cells slots h ad H locs) (Lo : so_L k ad h lsC ls (st)) (hd : decode (am_by k) pc = .ok (.iconst z, 1)) (hv : Int32.ofInt z = Int32.ofInt x) (ho : am_ok x) (hK1 : K b (pc + 1) ls (.inl x :: st) h) : W p l e R s m args below meth c H locs cells slots Z (F0 m pc lsC ((st).map (sv ad))) := by
  obtain ⟨⟨hx, hb, -⟩, -⟩ := F
  exact lv_iconst hx hb hd hv (KK _ _ _ _ _ hK1 ad H locs cells slots lsC I (so_Lp Lo ho (fun _ q => q)))
theorem s_bipush {p : Program} {l : Launch} {e : Env} {R : Room} {s : State} {m : MethodId} {args : Array Value} {below : List Frame} {meth : Method} {c : Code} {k d mc ms L : Nat} {G : va_G} {cA : ClassId} {ad0 : Nat → Nat} {h0 : am_H} {A : Nat → Prop} {xs : Int → Int} {Z : State → Prop} {K : Nat → Nat → am_L → List am_V → am_H → Prop} {b pc cells slots : Nat} {ls : am_L} {st : List am_V} {h : am_H} {ad : Nat → Nat} {H : Heap} {locs : List Loc} {lsC : Array Slot} {z x : Int} (F : so_F p R s m args c k d mc ms L G cA ad0 A xs) (KK : so_K p l e R s m args below meth c k mc ms L G cA ad0 h0 A xs Z K) (I : so_I s mc ms L G cA ad0 h0 A xs b cells slots h ad H locs) (Lo : so_L k ad h lsC ls (st)) (hd : decode (am_by k) pc = .ok (.bipush z, 2)) (hv : (Int8.ofInt z).toInt32 = Int32.ofInt x) (ho : am_ok x) (hK1 : K b (pc + 2) ls (.inl x :: st) h) : W p l e R s m args below meth c H locs cells slots Z (F0 m pc lsC ((st).map (sv ad))) := by
  obtain ⟨⟨hx, hb, -⟩, -⟩ := F
  exact lv_bipush hx hb hd hv (KK _ _ _ _ _ hK1 ad H locs cells slots lsC I (so_Lp Lo ho (fun _ q => q)))
theorem s_sipush {p : Program} {l : Launch} {e : Env} {R : Room} {s : State} {m : MethodId} {args : Array Value} {below : List Frame} {meth : Method} {c : Code} {k d mc ms L : Nat} {G : va_G} {cA : ClassId} {ad0 : Nat → Nat} {h0 : am_H} {A : Nat → Prop} {xs : Int → Int} {Z : State → Prop} {K : Nat → Nat → am_L → List am_V → am_H → Prop} {b pc cells slots : Nat} {ls : am_L} {st : List am_V} {h : am_H} {ad : Nat → Nat} {H : Heap} {locs : List Loc} {lsC : Array Slot} {z x : Int} (F : so_F p R s m args c k d mc ms L G cA ad0 A xs) (KK : so_K p l e R s m args below meth c k mc ms L G cA ad0 h0 A xs Z K) (I : so_I s mc ms L G cA ad0 h0 A xs b cells slots h ad H locs) (Lo : so_L k ad h lsC ls (st)) (hd : decode (am_by k) pc = .ok (.sipush z, 3)) (hv : (Int16.ofInt z).toInt32 = Int32.ofInt x) (ho : am_ok x) (hK1 : K b (pc + 3) ls (.inl x :: st) h) : W p l e R s m args below meth c H locs cells slots Z (F0 m pc lsC ((st).map (sv ad))) := by
  obtain ⟨⟨hx, hb, -⟩, -⟩ := F
  exact lv_sipush hx hb hd hv (KK _ _ _ _ _ hK1 ad H locs cells slots lsC I (so_Lp Lo ho (fun _ q => q)))
theorem s_ldc {p : Program} {l : Launch} {e : Env} {R : Room} {s : State} {m : MethodId} {args : Array Value} {below : List Frame} {meth : Method} {c : Code} {k d mc ms L : Nat} {G : va_G} {cA : ClassId} {ad0 : Nat → Nat} {h0 : am_H} {A : Nat → Prop} {xs : Int → Int} {Z : State → Prop} {K : Nat → Nat → am_L → List am_V → am_H → Prop} {b pc cells slots : Nat} {ls : am_L} {st : List am_V} {h : am_H} {ad : Nat → Nat} {H : Heap} {locs : List Loc} {lsC : Array Slot} {i : Nat} {x : Int} (F : so_F p R s m args c k d mc ms L G cA ad0 A xs) (KK : so_K p l e R s m args below meth c k mc ms L G cA ad0 h0 A xs Z K) (I : so_I s mc ms L G cA ad0 h0 A xs b cells slots h ad H locs) (Lo : so_L k ad h lsC ls (st)) (hd : decode (am_by k) pc = .ok (.ldc i, 2)) (hc : Cond.constant (am_on (am_ow k)) i (Int32.ofInt x) ∈ lw_tbl) (ho : am_ok x) (hK1 : K b (pc + 2) ls (.inl x :: st) h) : W p l e R s m args below meth c H locs cells slots Z (F0 m pc lsC ((st).map (sv ad))) := by
  obtain ⟨⟨hx, hb, hml, hown, hts⟩, ⟨hK, hA, hfx⟩, hRf, hRl, hRc, hRs⟩ := F
  exact lv_ldc hx hb hown (hts _ (gw hc rfl)) hd (KK _ _ _ _ _ hK1 ad H locs cells slots lsC I (so_Lp Lo ho (fun _ q => q)))
theorem s_ldc_w {p : Program} {l : Launch} {e : Env} {R : Room} {s : State} {m : MethodId} {args : Array Value} {below : List Frame} {meth : Method} {c : Code} {k d mc ms L : Nat} {G : va_G} {cA : ClassId} {ad0 : Nat → Nat} {h0 : am_H} {A : Nat → Prop} {xs : Int → Int} {Z : State → Prop} {K : Nat → Nat → am_L → List am_V → am_H → Prop} {b pc cells slots : Nat} {ls : am_L} {st : List am_V} {h : am_H} {ad : Nat → Nat} {H : Heap} {locs : List Loc} {lsC : Array Slot} {i : Nat} {x : Int} (F : so_F p R s m args c k d mc ms L G cA ad0 A xs) (KK : so_K p l e R s m args below meth c k mc ms L G cA ad0 h0 A xs Z K) (I : so_I s mc ms L G cA ad0 h0 A xs b cells slots h ad H locs) (Lo : so_L k ad h lsC ls (st)) (hd : decode (am_by k) pc = .ok (.ldc_w i, 3)) (hc : Cond.constant (am_on (am_ow k)) i (Int32.ofInt x) ∈ lw_tbl) (ho : am_ok x) (hK1 : K b (pc + 3) ls (.inl x :: st) h) : W p l e R s m args below meth c H locs cells slots Z (F0 m pc lsC ((st).map (sv ad))) := by
  obtain ⟨⟨hx, hb, hml, hown, hts⟩, ⟨hK, hA, hfx⟩, hRf, hRl, hRc, hRs⟩ := F
  exact lv_ldcw hx hb hown (hts _ (gw hc rfl)) hd (KK _ _ _ _ _ hK1 ad H locs cells slots lsC I (so_Lp Lo ho (fun _ q => q)))
theorem s_ldc2 {p : Program} {l : Launch} {e : Env} {R : Room} {s : State} {m : MethodId} {args : Array Value} {below : List Frame} {meth : Method} {c : Code} {k d mc ms L : Nat} {G : va_G} {cA : ClassId} {ad0 : Nat → Nat} {h0 : am_H} {A : Nat → Prop} {xs : Int → Int} {Z : State → Prop} {K : Nat → Nat → am_L → List am_V → am_H → Prop} {b pc cells slots : Nat} {ls : am_L} {st : List am_V} {h : am_H} {ad : Nat → Nat} {H : Heap} {locs : List Loc} {lsC : Array Slot} {i : Nat} {x : Int} (F : so_F p R s m args c k d mc ms L G cA ad0 A xs) (KK : so_K p l e R s m args below meth c k mc ms L G cA ad0 h0 A xs Z K) (I : so_I s mc ms L G cA ad0 h0 A xs b cells slots h ad H locs) (Lo : so_L k ad h lsC ls (st)) (hd : decode (am_by k) pc = .ok (.ldc2_w i, 3)) (hc : Cond.constantLong (am_on (am_ow k)) i (Int64.ofInt x) ∈ lw_tbl) (hK1 : K b (pc + 3) ls (.inr (.inl (Int64.ofInt x)) :: st) h) : W p l e R s m args below meth c H locs cells slots Z (F0 m pc lsC ((st).map (sv ad))) := by
  obtain ⟨⟨hx, hb, hml, hown, hts⟩, ⟨hK, hA, hfx⟩, hRf, hRl, hRc, hRs⟩ := F
  exact lv_ldc2 hx hb hown (hts _ (gw hc rfl)) hd (KK _ _ _ _ _ hK1 ad H locs cells slots lsC I (so_Lp Lo trivial (fun _ q => q)))
theorem s_iload_n {p : Program} {l : Launch} {e : Env} {R : Room} {s : State} {m : MethodId} {args : Array Value} {below : List Frame} {meth : Method} {c : Code} {k d mc ms L : Nat} {G : va_G} {cA : ClassId} {ad0 : Nat → Nat} {h0 : am_H} {A : Nat → Prop} {xs : Int → Int} {Z : State → Prop} {K : Nat → Nat → am_L → List am_V → am_H → Prop} {b pc cells slots : Nat} {ls : am_L} {st : List am_V} {h : am_H} {ad : Nat → Nat} {H : Heap} {locs : List Loc} {lsC : Array Slot} {f : Fin 4} {a : Int} (F : so_F p R s m args c k d mc ms L G cA ad0 A xs) (KK : so_K p l e R s m args below meth c k mc ms L G cA ad0 h0 A xs Z K) (I : so_I s mc ms L G cA ad0 h0 A xs b cells slots h ad H locs) (Lo : so_L k ad h lsC ls (st)) (hd : decode (am_by k) pc = .ok (.iload_n f, 1)) (hg : am_g ls f.val = some (.inl a)) (hK1 : K b (pc + 1) ls (.inl a :: st) h) : W p l e R s m args below meth c H locs cells slots Z (F0 m pc lsC ((st).map (sv ad))) := by
  obtain ⟨⟨hx, hb, -⟩, -⟩ := F
  exact lv_iload_n hx hb hd rfl (slr_at Lo.1.1 hg) (KK _ _ _ _ _ hK1 ad H locs cells slots lsC I (so_Lp Lo (Lo.1.2.2 _ _ hg) (fun _ q => q)))
theorem s_iload {p : Program} {l : Launch} {e : Env} {R : Room} {s : State} {m : MethodId} {args : Array Value} {below : List Frame} {meth : Method} {c : Code} {k d mc ms L : Nat} {G : va_G} {cA : ClassId} {ad0 : Nat → Nat} {h0 : am_H} {A : Nat → Prop} {xs : Int → Int} {Z : State → Prop} {K : Nat → Nat → am_L → List am_V → am_H → Prop} {b pc cells slots : Nat} {ls : am_L} {st : List am_V} {h : am_H} {ad : Nat → Nat} {H : Heap} {locs : List Loc} {lsC : Array Slot} {i : Nat} {a : Int} (F : so_F p R s m args c k d mc ms L G cA ad0 A xs) (KK : so_K p l e R s m args below meth c k mc ms L G cA ad0 h0 A xs Z K) (I : so_I s mc ms L G cA ad0 h0 A xs b cells slots h ad H locs) (Lo : so_L k ad h lsC ls (st)) (hd : decode (am_by k) pc = .ok (.iload i, 2)) (hg : am_g ls i = some (.inl a)) (hK1 : K b (pc + 2) ls (.inl a :: st) h) : W p l e R s m args below meth c H locs cells slots Z (F0 m pc lsC ((st).map (sv ad))) := by
  obtain ⟨⟨hx, hb, -⟩, -⟩ := F
  exact lv_iload hx hb hd (slr_at Lo.1.1 hg) (KK _ _ _ _ _ hK1 ad H locs cells slots lsC I (so_Lp Lo (Lo.1.2.2 _ _ hg) (fun _ q => q)))
theorem s_aload_n {p : Program} {l : Launch} {e : Env} {R : Room} {s : State} {m : MethodId} {args : Array Value} {below : List Frame} {meth : Method} {c : Code} {k d mc ms L : Nat} {G : va_G} {cA : ClassId} {ad0 : Nat → Nat} {h0 : am_H} {A : Nat → Prop} {xs : Int → Int} {Z : State → Prop} {K : Nat → Nat → am_L → List am_V → am_H → Prop} {b pc cells slots : Nat} {ls : am_L} {st : List am_V} {h : am_H} {ad : Nat → Nat} {H : Heap} {locs : List Loc} {lsC : Array Slot} {f : Fin 4} {a : Nat} (F : so_F p R s m args c k d mc ms L G cA ad0 A xs) (KK : so_K p l e R s m args below meth c k mc ms L G cA ad0 h0 A xs Z K) (I : so_I s mc ms L G cA ad0 h0 A xs b cells slots h ad H locs) (Lo : so_L k ad h lsC ls (st)) (hd : decode (am_by k) pc = .ok (.aload_n f, 1)) (hg : am_g ls f.val = some (.inr (.inr a))) (hK1 : K b (pc + 1) ls (.inr (.inr a) :: st) h) : W p l e R s m args below meth c H locs cells slots Z (F0 m pc lsC ((st).map (sv ad))) := by
  obtain ⟨⟨hx, hb, -⟩, -⟩ := F
  exact lv_aload_n hx hb hd rfl (slr_at Lo.1.1 hg) (KK _ _ _ _ _ hK1 ad H locs cells slots lsC I (so_Lp Lo (Lo.1.2.2 _ _ hg) (fun _ q => q)))
theorem s_aload {p : Program} {l : Launch} {e : Env} {R : Room} {s : State} {m : MethodId} {args : Array Value} {below : List Frame} {meth : Method} {c : Code} {k d mc ms L : Nat} {G : va_G} {cA : ClassId} {ad0 : Nat → Nat} {h0 : am_H} {A : Nat → Prop} {xs : Int → Int} {Z : State → Prop} {K : Nat → Nat → am_L → List am_V → am_H → Prop} {b pc cells slots : Nat} {ls : am_L} {st : List am_V} {h : am_H} {ad : Nat → Nat} {H : Heap} {locs : List Loc} {lsC : Array Slot} {i : Nat} {a : Nat} (F : so_F p R s m args c k d mc ms L G cA ad0 A xs) (KK : so_K p l e R s m args below meth c k mc ms L G cA ad0 h0 A xs Z K) (I : so_I s mc ms L G cA ad0 h0 A xs b cells slots h ad H locs) (Lo : so_L k ad h lsC ls (st)) (hd : decode (am_by k) pc = .ok (.aload i, 2)) (hg : am_g ls i = some (.inr (.inr a))) (hK1 : K b (pc + 2) ls (.inr (.inr a) :: st) h) : W p l e R s m args below meth c H locs cells slots Z (F0 m pc lsC ((st).map (sv ad))) := by
  obtain ⟨⟨hx, hb, -⟩, -⟩ := F
  exact lv_aload hx hb hd (slr_at Lo.1.1 hg) (KK _ _ _ _ _ hK1 ad H locs cells slots lsC I (so_Lp Lo (Lo.1.2.2 _ _ hg) (fun _ q => q)))
theorem s_lload_n {p : Program} {l : Launch} {e : Env} {R : Room} {s : State} {m : MethodId} {args : Array Value} {below : List Frame} {meth : Method} {c : Code} {k d mc ms L : Nat} {G : va_G} {cA : ClassId} {ad0 : Nat → Nat} {h0 : am_H} {A : Nat → Prop} {xs : Int → Int} {Z : State → Prop} {K : Nat → Nat → am_L → List am_V → am_H → Prop} {b pc cells slots : Nat} {ls : am_L} {st : List am_V} {h : am_H} {ad : Nat → Nat} {H : Heap} {locs : List Loc} {lsC : Array Slot} {f : Fin 4} {a : Int64} (F : so_F p R s m args c k d mc ms L G cA ad0 A xs) (KK : so_K p l e R s m args below meth c k mc ms L G cA ad0 h0 A xs Z K) (I : so_I s mc ms L G cA ad0 h0 A xs b cells slots h ad H locs) (Lo : so_L k ad h lsC ls (st)) (hd : decode (am_by k) pc = .ok (.lload_n f, 1)) (hg : am_g ls f.val = some (.inr (.inl a))) (hK1 : K b (pc + 1) ls (.inr (.inl a) :: st) h) : W p l e R s m args below meth c H locs cells slots Z (F0 m pc lsC ((st).map (sv ad))) := by
  obtain ⟨⟨hx, hb, -⟩, -⟩ := F
  exact lv_lload_n hx hb hd rfl (slr_at Lo.1.1 hg) (KK _ _ _ _ _ hK1 ad H locs cells slots lsC I (so_Lp Lo (Lo.1.2.2 _ _ hg) (fun _ q => q)))
theorem so_Ls {k t : Nat} {ad : Nat → Nat} {h : am_H} {lsC lsD : Array Slot} {ls : am_L} {st st' : List am_V} {v : am_V} (X : so_L k ad h lsC ls st') (hv : sok h v) (hs : ∀ w ∈ st, w ∈ st') (h1 : am_s1 ls t) (hl : lv_has lsD ls.length ((t, sv ad v) :: (spl ad ls).filter (fun q => !(q.1 == t) && !(q.1 + 1 == t && q.2.category == 2)))) : so_L k ad h lsD (am_p ls t v) st := by
  refine ⟨⟨slr_store h1 hl, by rw [am_p_len]; exact X.1.2.1, fun i w hw => ?_⟩, fun w hw => X.2 w (hs w hw)⟩
  rw [am_p_get _ _ _ _ h1.1] at hw
  by_cases z : i = t
  · rw [if_pos z] at hw; cases hw; exact hv
  · rw [if_neg z] at hw; exact X.1.2.2 i w hw
theorem s_istore_n {p : Program} {l : Launch} {e : Env} {R : Room} {s : State} {m : MethodId} {args : Array Value} {below : List Frame} {meth : Method} {c : Code} {k d mc ms L : Nat} {G : va_G} {cA : ClassId} {ad0 : Nat → Nat} {h0 : am_H} {A : Nat → Prop} {xs : Int → Int} {Z : State → Prop} {K : Nat → Nat → am_L → List am_V → am_H → Prop} {b pc cells slots : Nat} {ls : am_L} {st : List am_V} {h : am_H} {ad : Nat → Nat} {H : Heap} {locs : List Loc} {lsC : Array Slot} {f : Fin 4} {a : Int} (F : so_F p R s m args c k d mc ms L G cA ad0 A xs) (KK : so_K p l e R s m args below meth c k mc ms L G cA ad0 h0 A xs Z K) (I : so_I s mc ms L G cA ad0 h0 A xs b cells slots h ad H locs) (Lo : so_L k ad h lsC ls (.inl a :: st)) (hd : decode (am_by k) pc = .ok (.istore_n f, 1)) (hs : am_s1 ls f.val) (hK1 : K b (pc + 1) (am_p ls f.val (.inl a)) st h) : W p l e R s m args below meth c H locs cells slots Z (F0 m pc lsC ((.inl a :: st).map (sv ad))) := by
  obtain ⟨⟨hx, hb, -⟩, -⟩ := F
  exact lv_istore_n hx hb hd rfl Lo.1.1 hs.1 rfl (fun lsD hl => KK _ _ _ _ _ hK1 ad H locs cells slots lsD I (so_Ls Lo (so_h0 Lo) mem1 hs hl))
theorem s_istore {p : Program} {l : Launch} {e : Env} {R : Room} {s : State} {m : MethodId} {args : Array Value} {below : List Frame} {meth : Method} {c : Code} {k d mc ms L : Nat} {G : va_G} {cA : ClassId} {ad0 : Nat → Nat} {h0 : am_H} {A : Nat → Prop} {xs : Int → Int} {Z : State → Prop} {K : Nat → Nat → am_L → List am_V → am_H → Prop} {b pc cells slots : Nat} {ls : am_L} {st : List am_V} {h : am_H} {ad : Nat → Nat} {H : Heap} {locs : List Loc} {lsC : Array Slot} {i : Nat} {a : Int} (F : so_F p R s m args c k d mc ms L G cA ad0 A xs) (KK : so_K p l e R s m args below meth c k mc ms L G cA ad0 h0 A xs Z K) (I : so_I s mc ms L G cA ad0 h0 A xs b cells slots h ad H locs) (Lo : so_L k ad h lsC ls (.inl a :: st)) (hd : decode (am_by k) pc = .ok (.istore i, 2)) (hs : am_s1 ls i) (hK1 : K b (pc + 2) (am_p ls i (.inl a)) st h) : W p l e R s m args below meth c H locs cells slots Z (F0 m pc lsC ((.inl a :: st).map (sv ad))) := by
  obtain ⟨⟨hx, hb, -⟩, -⟩ := F
  exact lv_istore hx hb hd Lo.1.1 hs.1 rfl (fun lsD hl => KK _ _ _ _ _ hK1 ad H locs cells slots lsD I (so_Ls Lo (so_h0 Lo) mem1 hs hl))
theorem s_astore_n {p : Program} {l : Launch} {e : Env} {R : Room} {s : State} {m : MethodId} {args : Array Value} {below : List Frame} {meth : Method} {c : Code} {k d mc ms L : Nat} {G : va_G} {cA : ClassId} {ad0 : Nat → Nat} {h0 : am_H} {A : Nat → Prop} {xs : Int → Int} {Z : State → Prop} {K : Nat → Nat → am_L → List am_V → am_H → Prop} {b pc cells slots : Nat} {ls : am_L} {st : List am_V} {h : am_H} {ad : Nat → Nat} {H : Heap} {locs : List Loc} {lsC : Array Slot} {f : Fin 4} {a : Nat} (F : so_F p R s m args c k d mc ms L G cA ad0 A xs) (KK : so_K p l e R s m args below meth c k mc ms L G cA ad0 h0 A xs Z K) (I : so_I s mc ms L G cA ad0 h0 A xs b cells slots h ad H locs) (Lo : so_L k ad h lsC ls (.inr (.inr a) :: st)) (hd : decode (am_by k) pc = .ok (.astore_n f, 1)) (hs : am_s1 ls f.val) (hK1 : K b (pc + 1) (am_p ls f.val (.inr (.inr a))) st h) : W p l e R s m args below meth c H locs cells slots Z (F0 m pc lsC ((.inr (.inr a) :: st).map (sv ad))) := by
  obtain ⟨⟨hx, hb, -⟩, -⟩ := F
  exact lv_astore_n hx hb hd rfl Lo.1.1 hs.1 rfl (fun lsD hl => KK _ _ _ _ _ hK1 ad H locs cells slots lsD I (so_Ls Lo (so_h0 Lo) mem1 hs hl))
theorem s_astore {p : Program} {l : Launch} {e : Env} {R : Room} {s : State} {m : MethodId} {args : Array Value} {below : List Frame} {meth : Method} {c : Code} {k d mc ms L : Nat} {G : va_G} {cA : ClassId} {ad0 : Nat → Nat} {h0 : am_H} {A : Nat → Prop} {xs : Int → Int} {Z : State → Prop} {K : Nat → Nat → am_L → List am_V → am_H → Prop} {b pc cells slots : Nat} {ls : am_L} {st : List am_V} {h : am_H} {ad : Nat → Nat} {H : Heap} {locs : List Loc} {lsC : Array Slot} {i : Nat} {a : Nat} (F : so_F p R s m args c k d mc ms L G cA ad0 A xs) (KK : so_K p l e R s m args below meth c k mc ms L G cA ad0 h0 A xs Z K) (I : so_I s mc ms L G cA ad0 h0 A xs b cells slots h ad H locs) (Lo : so_L k ad h lsC ls (.inr (.inr a) :: st)) (hd : decode (am_by k) pc = .ok (.astore i, 2)) (hs : am_s1 ls i) (hK1 : K b (pc + 2) (am_p ls i (.inr (.inr a))) st h) : W p l e R s m args below meth c H locs cells slots Z (F0 m pc lsC ((.inr (.inr a) :: st).map (sv ad))) := by
  obtain ⟨⟨hx, hb, -⟩, -⟩ := F
  exact lv_astore hx hb hd Lo.1.1 hs.1 rfl (fun lsD hl => KK _ _ _ _ _ hK1 ad H locs cells slots lsD I (so_Ls Lo (so_h0 Lo) mem1 hs hl))
theorem s_iinc {p : Program} {l : Launch} {e : Env} {R : Room} {s : State} {m : MethodId} {args : Array Value} {below : List Frame} {meth : Method} {c : Code} {k d mc ms L : Nat} {G : va_G} {cA : ClassId} {ad0 : Nat → Nat} {h0 : am_H} {A : Nat → Prop} {xs : Int → Int} {Z : State → Prop} {K : Nat → Nat → am_L → List am_V → am_H → Prop} {b pc cells slots : Nat} {ls : am_L} {st : List am_V} {h : am_H} {ad : Nat → Nat} {H : Heap} {locs : List Loc} {lsC : Array Slot} {i : Nat} {a x : Int} (F : so_F p R s m args c k d mc ms L G cA ad0 A xs) (KK : so_K p l e R s m args below meth c k mc ms L G cA ad0 h0 A xs Z K) (I : so_I s mc ms L G cA ad0 h0 A xs b cells slots h ad H locs) (Lo : so_L k ad h lsC ls (st)) (hd : decode (am_by k) pc = .ok (.iinc i x, 3)) (hg : am_g ls i = some (.inl a)) (ho : am_ok (a + x)) (hs : am_s1 ls i) (hK1 : K b (pc + 3) (am_p ls i (.inl (a + x))) st h) : W p l e R s m args below meth c H locs cells slots Z (F0 m pc lsC ((st).map (sv ad))) := by
  obtain ⟨⟨hx, hb, -⟩, -⟩ := F
  obtain ⟨z, hz⟩ := List.getElem?_of_mem (spl_mem (ad := ad) (q := (i, .int (Int32.ofInt a))).mpr ⟨.inl a, hg, rfl⟩)
  exact lv_iinc hx hb hd Lo.1.1 hz (v := Int32.ofInt (a + x)) (Int32.ofInt_add a x).symm hs.1 rfl (fun lsD hl => KK _ _ _ _ _ hK1 ad H locs cells slots lsD I (so_Ls Lo ho (fun _ q => q) hs hl))
theorem s_iadd {p : Program} {l : Launch} {e : Env} {R : Room} {s : State} {m : MethodId} {args : Array Value} {below : List Frame} {meth : Method} {c : Code} {k d mc ms L : Nat} {G : va_G} {cA : ClassId} {ad0 : Nat → Nat} {h0 : am_H} {A : Nat → Prop} {xs : Int → Int} {Z : State → Prop} {K : Nat → Nat → am_L → List am_V → am_H → Prop} {b pc cells slots : Nat} {ls : am_L} {st : List am_V} {h : am_H} {ad : Nat → Nat} {H : Heap} {locs : List Loc} {lsC : Array Slot} {a z : Int} (F : so_F p R s m args c k d mc ms L G cA ad0 A xs) (KK : so_K p l e R s m args below meth c k mc ms L G cA ad0 h0 A xs Z K) (I : so_I s mc ms L G cA ad0 h0 A xs b cells slots h ad H locs) (Lo : so_L k ad h lsC ls (.inl z :: .inl a :: st)) (hd : decode (am_by k) pc = .ok (.iadd, 1)) (ho : am_ok (a + z)) (hK1 : K b (pc + 1) ls (.inl (a + z) :: st) h) : W p l e R s m args below meth c H locs cells slots Z (F0 m pc lsC ((.inl z :: .inl a :: st).map (sv ad))) := by
  obtain ⟨⟨hx, hb, -⟩, -⟩ := F
  refine lv_iadd hx hb hd ?_
  rw [← Int32.ofInt_add]
  exact KK _ _ _ _ _ hK1 ad H locs cells slots lsC I (so_Lp Lo ho mem2)
theorem s_isub {p : Program} {l : Launch} {e : Env} {R : Room} {s : State} {m : MethodId} {args : Array Value} {below : List Frame} {meth : Method} {c : Code} {k d mc ms L : Nat} {G : va_G} {cA : ClassId} {ad0 : Nat → Nat} {h0 : am_H} {A : Nat → Prop} {xs : Int → Int} {Z : State → Prop} {K : Nat → Nat → am_L → List am_V → am_H → Prop} {b pc cells slots : Nat} {ls : am_L} {st : List am_V} {h : am_H} {ad : Nat → Nat} {H : Heap} {locs : List Loc} {lsC : Array Slot} {a z : Int} (F : so_F p R s m args c k d mc ms L G cA ad0 A xs) (KK : so_K p l e R s m args below meth c k mc ms L G cA ad0 h0 A xs Z K) (I : so_I s mc ms L G cA ad0 h0 A xs b cells slots h ad H locs) (Lo : so_L k ad h lsC ls (.inl z :: .inl a :: st)) (hd : decode (am_by k) pc = .ok (.isub, 1)) (ho : am_ok (a - z)) (hK1 : K b (pc + 1) ls (.inl (a - z) :: st) h) : W p l e R s m args below meth c H locs cells slots Z (F0 m pc lsC ((.inl z :: .inl a :: st).map (sv ad))) := by
  obtain ⟨⟨hx, hb, -⟩, -⟩ := F
  refine lv_isub hx hb hd ?_
  rw [← Int32.ofInt_sub]
  exact KK _ _ _ _ _ hK1 ad H locs cells slots lsC I (so_Lp Lo ho mem2)
theorem s_imul {p : Program} {l : Launch} {e : Env} {R : Room} {s : State} {m : MethodId} {args : Array Value} {below : List Frame} {meth : Method} {c : Code} {k d mc ms L : Nat} {G : va_G} {cA : ClassId} {ad0 : Nat → Nat} {h0 : am_H} {A : Nat → Prop} {xs : Int → Int} {Z : State → Prop} {K : Nat → Nat → am_L → List am_V → am_H → Prop} {b pc cells slots : Nat} {ls : am_L} {st : List am_V} {h : am_H} {ad : Nat → Nat} {H : Heap} {locs : List Loc} {lsC : Array Slot} {a z : Int} (F : so_F p R s m args c k d mc ms L G cA ad0 A xs) (KK : so_K p l e R s m args below meth c k mc ms L G cA ad0 h0 A xs Z K) (I : so_I s mc ms L G cA ad0 h0 A xs b cells slots h ad H locs) (Lo : so_L k ad h lsC ls (.inl z :: .inl a :: st)) (hd : decode (am_by k) pc = .ok (.imul, 1)) (ho : am_ok (a * z)) (hK1 : K b (pc + 1) ls (.inl (a * z) :: st) h) : W p l e R s m args below meth c H locs cells slots Z (F0 m pc lsC ((.inl z :: .inl a :: st).map (sv ad))) := by
  obtain ⟨⟨hx, hb, -⟩, -⟩ := F
  refine lv_imul hx hb hd ?_
  rw [← Int32.ofInt_mul]
  exact KK _ _ _ _ _ hK1 ad H locs cells slots lsC I (so_Lp Lo ho mem2)
theorem s_idiv {p : Program} {l : Launch} {e : Env} {R : Room} {s : State} {m : MethodId} {args : Array Value} {below : List Frame} {meth : Method} {c : Code} {k d mc ms L : Nat} {G : va_G} {cA : ClassId} {ad0 : Nat → Nat} {h0 : am_H} {A : Nat → Prop} {xs : Int → Int} {Z : State → Prop} {K : Nat → Nat → am_L → List am_V → am_H → Prop} {b pc cells slots : Nat} {ls : am_L} {st : List am_V} {h : am_H} {ad : Nat → Nat} {H : Heap} {locs : List Loc} {lsC : Array Slot} {a z : Int} (F : so_F p R s m args c k d mc ms L G cA ad0 A xs) (KK : so_K p l e R s m args below meth c k mc ms L G cA ad0 h0 A xs Z K) (I : so_I s mc ms L G cA ad0 h0 A xs b cells slots h ad H locs) (Lo : so_L k ad h lsC ls (.inl z :: .inl a :: st)) (hd : decode (am_by k) pc = .ok (.idiv, 1)) (hz : 0 < z ∧ 0 ≤ a) (hK1 : K b (pc + 1) ls (.inl (a / z) :: st) h) : W p l e R s m args below meth c H locs cells slots Z (F0 m pc lsC ((.inl z :: .inl a :: st).map (sv ad))) := by
  obtain ⟨⟨hx, hb, -⟩, -⟩ := F
  have oz : am_ok z := so_h0 Lo
  have oa : am_ok a := so_h1 Lo
  have ob : am_ok (a / z) := by
    have h1 := oa.2
    have h2 := oz.2
    have h3 : 0 ≤ a / z := Int.ediv_nonneg hz.2 (by omega)
    have h4 : a / z ≤ 2147483647 := Int.le_trans (Int.ediv_le_self z hz.2) h1
    constructor <;> omega
  refine lv_idiv hx hb hd (fun q => ?_) ?_
  · have : z = 0 := (sI_eq oz ⟨by decide, by decide⟩).mp (q.trans rfl)
    omega
  · rw [sI_div oa oz hz.2 hz.1]
    exact KK _ _ _ _ _ hK1 ad H locs cells slots lsC I (so_Lp Lo ob mem2)
theorem s_irem {p : Program} {l : Launch} {e : Env} {R : Room} {s : State} {m : MethodId} {args : Array Value} {below : List Frame} {meth : Method} {c : Code} {k d mc ms L : Nat} {G : va_G} {cA : ClassId} {ad0 : Nat → Nat} {h0 : am_H} {A : Nat → Prop} {xs : Int → Int} {Z : State → Prop} {K : Nat → Nat → am_L → List am_V → am_H → Prop} {b pc cells slots : Nat} {ls : am_L} {st : List am_V} {h : am_H} {ad : Nat → Nat} {H : Heap} {locs : List Loc} {lsC : Array Slot} {a z : Int} (F : so_F p R s m args c k d mc ms L G cA ad0 A xs) (KK : so_K p l e R s m args below meth c k mc ms L G cA ad0 h0 A xs Z K) (I : so_I s mc ms L G cA ad0 h0 A xs b cells slots h ad H locs) (Lo : so_L k ad h lsC ls (.inl z :: .inl a :: st)) (hd : decode (am_by k) pc = .ok (.irem, 1)) (hz : 0 < z ∧ 0 ≤ a) (hK1 : K b (pc + 1) ls (.inl (a % z) :: st) h) : W p l e R s m args below meth c H locs cells slots Z (F0 m pc lsC ((.inl z :: .inl a :: st).map (sv ad))) := by
  obtain ⟨⟨hx, hb, -⟩, -⟩ := F
  have oz : am_ok z := so_h0 Lo
  have oa : am_ok a := so_h1 Lo
  have ob : am_ok (a % z) := by
    have h1 := oa.2
    have h2 := oz.2
    have h3 : 0 ≤ a % z := Int.emod_nonneg a (by omega)
    have h4 : a % z ≤ 2147483647 := by have := Int.emod_lt_of_pos a hz.1; omega
    constructor <;> omega
  refine lv_irem hx hb hd (fun q => ?_) ?_
  · have : z = 0 := (sI_eq oz ⟨by decide, by decide⟩).mp (q.trans rfl)
    omega
  · rw [sI_rem oa oz hz.2 hz.1]
    exact KK _ _ _ _ _ hK1 ad H locs cells slots lsC I (so_Lp Lo ob mem2)
theorem s_iand {p : Program} {l : Launch} {e : Env} {R : Room} {s : State} {m : MethodId} {args : Array Value} {below : List Frame} {meth : Method} {c : Code} {k d mc ms L : Nat} {G : va_G} {cA : ClassId} {ad0 : Nat → Nat} {h0 : am_H} {A : Nat → Prop} {xs : Int → Int} {Z : State → Prop} {K : Nat → Nat → am_L → List am_V → am_H → Prop} {b pc cells slots : Nat} {ls : am_L} {st : List am_V} {h : am_H} {ad : Nat → Nat} {H : Heap} {locs : List Loc} {lsC : Array Slot} {a z : Int} (F : so_F p R s m args c k d mc ms L G cA ad0 A xs) (KK : so_K p l e R s m args below meth c k mc ms L G cA ad0 h0 A xs Z K) (I : so_I s mc ms L G cA ad0 h0 A xs b cells slots h ad H locs) (Lo : so_L k ad h lsC ls (.inl z :: .inl a :: st)) (hd : decode (am_by k) pc = .ok (.iand, 1)) (hK1 : K b (pc + 1) ls (.inl (am_and a z) :: st) h) : W p l e R s m args below meth c H locs cells slots Z (F0 m pc lsC ((.inl z :: .inl a :: st).map (sv ad))) := by
  obtain ⟨⟨hx, hb, -⟩, -⟩ := F
  refine lv_iand hx hb hd ?_
  have q := KK _ _ _ _ _ hK1 ad H locs cells slots lsC I (so_Lp Lo (sI_ok _) mem2)
  rw [List.map_cons, show sv ad (.inl (am_and a z)) = Value.int (Int32.ofInt (am_and a z)) from rfl, show Int32.ofInt (am_and a z) = _ from sI_r _] at q
  exact q
theorem s_ior {p : Program} {l : Launch} {e : Env} {R : Room} {s : State} {m : MethodId} {args : Array Value} {below : List Frame} {meth : Method} {c : Code} {k d mc ms L : Nat} {G : va_G} {cA : ClassId} {ad0 : Nat → Nat} {h0 : am_H} {A : Nat → Prop} {xs : Int → Int} {Z : State → Prop} {K : Nat → Nat → am_L → List am_V → am_H → Prop} {b pc cells slots : Nat} {ls : am_L} {st : List am_V} {h : am_H} {ad : Nat → Nat} {H : Heap} {locs : List Loc} {lsC : Array Slot} {a z : Int} (F : so_F p R s m args c k d mc ms L G cA ad0 A xs) (KK : so_K p l e R s m args below meth c k mc ms L G cA ad0 h0 A xs Z K) (I : so_I s mc ms L G cA ad0 h0 A xs b cells slots h ad H locs) (Lo : so_L k ad h lsC ls (.inl z :: .inl a :: st)) (hd : decode (am_by k) pc = .ok (.ior, 1)) (hK1 : K b (pc + 1) ls (.inl (am_or a z) :: st) h) : W p l e R s m args below meth c H locs cells slots Z (F0 m pc lsC ((.inl z :: .inl a :: st).map (sv ad))) := by
  obtain ⟨⟨hx, hb, -⟩, -⟩ := F
  refine lv_ior hx hb hd ?_
  have q := KK _ _ _ _ _ hK1 ad H locs cells slots lsC I (so_Lp Lo (sI_ok _) mem2)
  rw [List.map_cons, show sv ad (.inl (am_or a z)) = Value.int (Int32.ofInt (am_or a z)) from rfl, show Int32.ofInt (am_or a z) = _ from sI_r _] at q
  exact q
theorem s_ixor {p : Program} {l : Launch} {e : Env} {R : Room} {s : State} {m : MethodId} {args : Array Value} {below : List Frame} {meth : Method} {c : Code} {k d mc ms L : Nat} {G : va_G} {cA : ClassId} {ad0 : Nat → Nat} {h0 : am_H} {A : Nat → Prop} {xs : Int → Int} {Z : State → Prop} {K : Nat → Nat → am_L → List am_V → am_H → Prop} {b pc cells slots : Nat} {ls : am_L} {st : List am_V} {h : am_H} {ad : Nat → Nat} {H : Heap} {locs : List Loc} {lsC : Array Slot} {a z : Int} (F : so_F p R s m args c k d mc ms L G cA ad0 A xs) (KK : so_K p l e R s m args below meth c k mc ms L G cA ad0 h0 A xs Z K) (I : so_I s mc ms L G cA ad0 h0 A xs b cells slots h ad H locs) (Lo : so_L k ad h lsC ls (.inl z :: .inl a :: st)) (hd : decode (am_by k) pc = .ok (.ixor, 1)) (hK1 : K b (pc + 1) ls (.inl (am_xor a z) :: st) h) : W p l e R s m args below meth c H locs cells slots Z (F0 m pc lsC ((.inl z :: .inl a :: st).map (sv ad))) := by
  obtain ⟨⟨hx, hb, -⟩, -⟩ := F
  refine lv_ixor hx hb hd ?_
  have q := KK _ _ _ _ _ hK1 ad H locs cells slots lsC I (so_Lp Lo (sI_ok _) mem2)
  rw [List.map_cons, show sv ad (.inl (am_xor a z)) = Value.int (Int32.ofInt (am_xor a z)) from rfl, show Int32.ofInt (am_xor a z) = _ from sI_r _] at q
  exact q
theorem s_ishl {p : Program} {l : Launch} {e : Env} {R : Room} {s : State} {m : MethodId} {args : Array Value} {below : List Frame} {meth : Method} {c : Code} {k d mc ms L : Nat} {G : va_G} {cA : ClassId} {ad0 : Nat → Nat} {h0 : am_H} {A : Nat → Prop} {xs : Int → Int} {Z : State → Prop} {K : Nat → Nat → am_L → List am_V → am_H → Prop} {b pc cells slots : Nat} {ls : am_L} {st : List am_V} {h : am_H} {ad : Nat → Nat} {H : Heap} {locs : List Loc} {lsC : Array Slot} {a z : Int} (F : so_F p R s m args c k d mc ms L G cA ad0 A xs) (KK : so_K p l e R s m args below meth c k mc ms L G cA ad0 h0 A xs Z K) (I : so_I s mc ms L G cA ad0 h0 A xs b cells slots h ad H locs) (Lo : so_L k ad h lsC ls (.inl z :: .inl a :: st)) (hd : decode (am_by k) pc = .ok (.ishl, 1)) (hK1 : K b (pc + 1) ls (.inl (am_shl a z) :: st) h) : W p l e R s m args below meth c H locs cells slots Z (F0 m pc lsC ((.inl z :: .inl a :: st).map (sv ad))) := by
  obtain ⟨⟨hx, hb, -⟩, -⟩ := F
  refine lv_ishl hx hb hd ?_
  have q := KK _ _ _ _ _ hK1 ad H locs cells slots lsC I (so_Lp Lo (sI_ok _) mem2)
  rw [List.map_cons, show sv ad (.inl (am_shl a z)) = Value.int (Int32.ofInt (am_shl a z)) from rfl, show Int32.ofInt (am_shl a z) = _ from sI_r _] at q
  exact q
theorem s_ishr {p : Program} {l : Launch} {e : Env} {R : Room} {s : State} {m : MethodId} {args : Array Value} {below : List Frame} {meth : Method} {c : Code} {k d mc ms L : Nat} {G : va_G} {cA : ClassId} {ad0 : Nat → Nat} {h0 : am_H} {A : Nat → Prop} {xs : Int → Int} {Z : State → Prop} {K : Nat → Nat → am_L → List am_V → am_H → Prop} {b pc cells slots : Nat} {ls : am_L} {st : List am_V} {h : am_H} {ad : Nat → Nat} {H : Heap} {locs : List Loc} {lsC : Array Slot} {a z : Int} (F : so_F p R s m args c k d mc ms L G cA ad0 A xs) (KK : so_K p l e R s m args below meth c k mc ms L G cA ad0 h0 A xs Z K) (I : so_I s mc ms L G cA ad0 h0 A xs b cells slots h ad H locs) (Lo : so_L k ad h lsC ls (.inl z :: .inl a :: st)) (hd : decode (am_by k) pc = .ok (.ishr, 1)) (hK1 : K b (pc + 1) ls (.inl (am_shr a z) :: st) h) : W p l e R s m args below meth c H locs cells slots Z (F0 m pc lsC ((.inl z :: .inl a :: st).map (sv ad))) := by
  obtain ⟨⟨hx, hb, -⟩, -⟩ := F
  refine lv_ishr hx hb hd ?_
  have q := KK _ _ _ _ _ hK1 ad H locs cells slots lsC I (so_Lp Lo (sI_ok _) mem2)
  rw [List.map_cons, show sv ad (.inl (am_shr a z)) = Value.int (Int32.ofInt (am_shr a z)) from rfl, show Int32.ofInt (am_shr a z) = _ from sI_r _] at q
  exact q
theorem s_iushr {p : Program} {l : Launch} {e : Env} {R : Room} {s : State} {m : MethodId} {args : Array Value} {below : List Frame} {meth : Method} {c : Code} {k d mc ms L : Nat} {G : va_G} {cA : ClassId} {ad0 : Nat → Nat} {h0 : am_H} {A : Nat → Prop} {xs : Int → Int} {Z : State → Prop} {K : Nat → Nat → am_L → List am_V → am_H → Prop} {b pc cells slots : Nat} {ls : am_L} {st : List am_V} {h : am_H} {ad : Nat → Nat} {H : Heap} {locs : List Loc} {lsC : Array Slot} {a z : Int} (F : so_F p R s m args c k d mc ms L G cA ad0 A xs) (KK : so_K p l e R s m args below meth c k mc ms L G cA ad0 h0 A xs Z K) (I : so_I s mc ms L G cA ad0 h0 A xs b cells slots h ad H locs) (Lo : so_L k ad h lsC ls (.inl z :: .inl a :: st)) (hd : decode (am_by k) pc = .ok (.iushr, 1)) (hK1 : K b (pc + 1) ls (.inl (am_ushr a z) :: st) h) : W p l e R s m args below meth c H locs cells slots Z (F0 m pc lsC ((.inl z :: .inl a :: st).map (sv ad))) := by
  obtain ⟨⟨hx, hb, -⟩, -⟩ := F
  exact lv_iushr hx hb hd (v := Int32.ofInt (am_ushr a z)) (sI_r _).symm (KK _ _ _ _ _ hK1 ad H locs cells slots lsC I (so_Lp Lo (sI_ok _) mem2))
theorem s_ladd {p : Program} {l : Launch} {e : Env} {R : Room} {s : State} {m : MethodId} {args : Array Value} {below : List Frame} {meth : Method} {c : Code} {k d mc ms L : Nat} {G : va_G} {cA : ClassId} {ad0 : Nat → Nat} {h0 : am_H} {A : Nat → Prop} {xs : Int → Int} {Z : State → Prop} {K : Nat → Nat → am_L → List am_V → am_H → Prop} {b pc cells slots : Nat} {ls : am_L} {st : List am_V} {h : am_H} {ad : Nat → Nat} {H : Heap} {locs : List Loc} {lsC : Array Slot} {a z : Int64} (F : so_F p R s m args c k d mc ms L G cA ad0 A xs) (KK : so_K p l e R s m args below meth c k mc ms L G cA ad0 h0 A xs Z K) (I : so_I s mc ms L G cA ad0 h0 A xs b cells slots h ad H locs) (Lo : so_L k ad h lsC ls (.inr (.inl z) :: .inr (.inl a) :: st)) (hd : decode (am_by k) pc = .ok (.ladd, 1)) (hK1 : K b (pc + 1) ls (.inr (.inl (a + z)) :: st) h) : W p l e R s m args below meth c H locs cells slots Z (F0 m pc lsC ((.inr (.inl z) :: .inr (.inl a) :: st).map (sv ad))) := by
  obtain ⟨⟨hx, hb, -⟩, -⟩ := F
  exact lv_ladd hx hb hd (KK _ _ _ _ _ hK1 ad H locs cells slots lsC I (so_Lp Lo trivial mem2))
theorem s_land {p : Program} {l : Launch} {e : Env} {R : Room} {s : State} {m : MethodId} {args : Array Value} {below : List Frame} {meth : Method} {c : Code} {k d mc ms L : Nat} {G : va_G} {cA : ClassId} {ad0 : Nat → Nat} {h0 : am_H} {A : Nat → Prop} {xs : Int → Int} {Z : State → Prop} {K : Nat → Nat → am_L → List am_V → am_H → Prop} {b pc cells slots : Nat} {ls : am_L} {st : List am_V} {h : am_H} {ad : Nat → Nat} {H : Heap} {locs : List Loc} {lsC : Array Slot} {a z : Int64} (F : so_F p R s m args c k d mc ms L G cA ad0 A xs) (KK : so_K p l e R s m args below meth c k mc ms L G cA ad0 h0 A xs Z K) (I : so_I s mc ms L G cA ad0 h0 A xs b cells slots h ad H locs) (Lo : so_L k ad h lsC ls (.inr (.inl z) :: .inr (.inl a) :: st)) (hd : decode (am_by k) pc = .ok (.land, 1)) (hK1 : K b (pc + 1) ls (.inr (.inl (a &&& z)) :: st) h) : W p l e R s m args below meth c H locs cells slots Z (F0 m pc lsC ((.inr (.inl z) :: .inr (.inl a) :: st).map (sv ad))) := by
  obtain ⟨⟨hx, hb, -⟩, -⟩ := F
  exact lv_land hx hb hd (KK _ _ _ _ _ hK1 ad H locs cells slots lsC I (so_Lp Lo trivial mem2))
theorem s_lor {p : Program} {l : Launch} {e : Env} {R : Room} {s : State} {m : MethodId} {args : Array Value} {below : List Frame} {meth : Method} {c : Code} {k d mc ms L : Nat} {G : va_G} {cA : ClassId} {ad0 : Nat → Nat} {h0 : am_H} {A : Nat → Prop} {xs : Int → Int} {Z : State → Prop} {K : Nat → Nat → am_L → List am_V → am_H → Prop} {b pc cells slots : Nat} {ls : am_L} {st : List am_V} {h : am_H} {ad : Nat → Nat} {H : Heap} {locs : List Loc} {lsC : Array Slot} {a z : Int64} (F : so_F p R s m args c k d mc ms L G cA ad0 A xs) (KK : so_K p l e R s m args below meth c k mc ms L G cA ad0 h0 A xs Z K) (I : so_I s mc ms L G cA ad0 h0 A xs b cells slots h ad H locs) (Lo : so_L k ad h lsC ls (.inr (.inl z) :: .inr (.inl a) :: st)) (hd : decode (am_by k) pc = .ok (.lor, 1)) (hK1 : K b (pc + 1) ls (.inr (.inl (a ||| z)) :: st) h) : W p l e R s m args below meth c H locs cells slots Z (F0 m pc lsC ((.inr (.inl z) :: .inr (.inl a) :: st).map (sv ad))) := by
  obtain ⟨⟨hx, hb, -⟩, -⟩ := F
  exact lv_lor hx hb hd (KK _ _ _ _ _ hK1 ad H locs cells slots lsC I (so_Lp Lo trivial mem2))
theorem s_lshl {p : Program} {l : Launch} {e : Env} {R : Room} {s : State} {m : MethodId} {args : Array Value} {below : List Frame} {meth : Method} {c : Code} {k d mc ms L : Nat} {G : va_G} {cA : ClassId} {ad0 : Nat → Nat} {h0 : am_H} {A : Nat → Prop} {xs : Int → Int} {Z : State → Prop} {K : Nat → Nat → am_L → List am_V → am_H → Prop} {b pc cells slots : Nat} {ls : am_L} {st : List am_V} {h : am_H} {ad : Nat → Nat} {H : Heap} {locs : List Loc} {lsC : Array Slot} {a : Int64} {z : Int} (F : so_F p R s m args c k d mc ms L G cA ad0 A xs) (KK : so_K p l e R s m args below meth c k mc ms L G cA ad0 h0 A xs Z K) (I : so_I s mc ms L G cA ad0 h0 A xs b cells slots h ad H locs) (Lo : so_L k ad h lsC ls (.inl z :: .inr (.inl a) :: st)) (hd : decode (am_by k) pc = .ok (.lshl, 1)) (hK1 : K b (pc + 1) ls (.inr (.inl (am_lshl a z)) :: st) h) : W p l e R s m args below meth c H locs cells slots Z (F0 m pc lsC ((.inl z :: .inr (.inl a) :: st).map (sv ad))) := by
  obtain ⟨⟨hx, hb, -⟩, -⟩ := F
  exact lv_lshl hx hb hd (v := am_lshl a z) rfl (KK _ _ _ _ _ hK1 ad H locs cells slots lsC I (so_Lp Lo trivial mem2))
theorem s_lshr {p : Program} {l : Launch} {e : Env} {R : Room} {s : State} {m : MethodId} {args : Array Value} {below : List Frame} {meth : Method} {c : Code} {k d mc ms L : Nat} {G : va_G} {cA : ClassId} {ad0 : Nat → Nat} {h0 : am_H} {A : Nat → Prop} {xs : Int → Int} {Z : State → Prop} {K : Nat → Nat → am_L → List am_V → am_H → Prop} {b pc cells slots : Nat} {ls : am_L} {st : List am_V} {h : am_H} {ad : Nat → Nat} {H : Heap} {locs : List Loc} {lsC : Array Slot} {a : Int64} {z : Int} (F : so_F p R s m args c k d mc ms L G cA ad0 A xs) (KK : so_K p l e R s m args below meth c k mc ms L G cA ad0 h0 A xs Z K) (I : so_I s mc ms L G cA ad0 h0 A xs b cells slots h ad H locs) (Lo : so_L k ad h lsC ls (.inl z :: .inr (.inl a) :: st)) (hd : decode (am_by k) pc = .ok (.lshr, 1)) (hK1 : K b (pc + 1) ls (.inr (.inl (am_lshr a z)) :: st) h) : W p l e R s m args below meth c H locs cells slots Z (F0 m pc lsC ((.inl z :: .inr (.inl a) :: st).map (sv ad))) := by
  obtain ⟨⟨hx, hb, -⟩, -⟩ := F
  exact lv_lshr hx hb hd (v := am_lshr a z) rfl (KK _ _ _ _ _ hK1 ad H locs cells slots lsC I (so_Lp Lo trivial mem2))
theorem s_lushr {p : Program} {l : Launch} {e : Env} {R : Room} {s : State} {m : MethodId} {args : Array Value} {below : List Frame} {meth : Method} {c : Code} {k d mc ms L : Nat} {G : va_G} {cA : ClassId} {ad0 : Nat → Nat} {h0 : am_H} {A : Nat → Prop} {xs : Int → Int} {Z : State → Prop} {K : Nat → Nat → am_L → List am_V → am_H → Prop} {b pc cells slots : Nat} {ls : am_L} {st : List am_V} {h : am_H} {ad : Nat → Nat} {H : Heap} {locs : List Loc} {lsC : Array Slot} {a : Int64} {z : Int} (F : so_F p R s m args c k d mc ms L G cA ad0 A xs) (KK : so_K p l e R s m args below meth c k mc ms L G cA ad0 h0 A xs Z K) (I : so_I s mc ms L G cA ad0 h0 A xs b cells slots h ad H locs) (Lo : so_L k ad h lsC ls (.inl z :: .inr (.inl a) :: st)) (hd : decode (am_by k) pc = .ok (.lushr, 1)) (hK1 : K b (pc + 1) ls (.inr (.inl (am_lushr a z)) :: st) h) : W p l e R s m args below meth c H locs cells slots Z (F0 m pc lsC ((.inl z :: .inr (.inl a) :: st).map (sv ad))) := by
  obtain ⟨⟨hx, hb, -⟩, -⟩ := F
  exact lv_lushr hx hb hd (v := am_lushr a z) rfl (KK _ _ _ _ _ hK1 ad H locs cells slots lsC I (so_Lp Lo trivial mem2))
theorem am_lc_ok (a z : Int64) : am_ok (am_lc a z) := by
  unfold am_lc
  by_cases h1 : z < a
  · rw [if_pos h1]; exact ⟨by decide, by decide⟩
  · rw [if_neg h1]
    by_cases h2 : a = z
    · rw [if_pos h2]; exact ⟨by decide, by decide⟩
    · rw [if_neg h2]; exact ⟨by decide, by decide⟩
theorem am_lc_eq (a z : Int64) : lg_cmp a z = Int32.ofInt (am_lc a z) := by
  unfold am_lc lg_cmp
  by_cases h1 : z < a
  · rw [if_pos h1, if_pos h1]; rfl
  · rw [if_neg h1, if_neg (show ¬ a > z from h1)]
    by_cases h2 : a = z
    · rw [if_pos h2, if_pos h2]; rfl
    · rw [if_neg h2, if_neg h2]; rfl
theorem s_lcmp {p : Program} {l : Launch} {e : Env} {R : Room} {s : State} {m : MethodId} {args : Array Value} {below : List Frame} {meth : Method} {c : Code} {k d mc ms L : Nat} {G : va_G} {cA : ClassId} {ad0 : Nat → Nat} {h0 : am_H} {A : Nat → Prop} {xs : Int → Int} {Z : State → Prop} {K : Nat → Nat → am_L → List am_V → am_H → Prop} {b pc cells slots : Nat} {ls : am_L} {st : List am_V} {h : am_H} {ad : Nat → Nat} {H : Heap} {locs : List Loc} {lsC : Array Slot} {a z : Int64} (F : so_F p R s m args c k d mc ms L G cA ad0 A xs) (KK : so_K p l e R s m args below meth c k mc ms L G cA ad0 h0 A xs Z K) (I : so_I s mc ms L G cA ad0 h0 A xs b cells slots h ad H locs) (Lo : so_L k ad h lsC ls (.inr (.inl z) :: .inr (.inl a) :: st)) (hd : decode (am_by k) pc = .ok (.lcmp, 1)) (hK1 : K b (pc + 1) ls (.inl (am_lc a z) :: st) h) : W p l e R s m args below meth c H locs cells slots Z (F0 m pc lsC ((.inr (.inl z) :: .inr (.inl a) :: st).map (sv ad))) := by
  obtain ⟨⟨hx, hb, -⟩, -⟩ := F
  refine W.lcmp hx hb hd ?_
  rw [am_lc_eq]
  exact KK _ _ _ _ _ hK1 ad H locs cells slots lsC I (so_Lp Lo (am_lc_ok a z) mem2)
theorem s_i2l {p : Program} {l : Launch} {e : Env} {R : Room} {s : State} {m : MethodId} {args : Array Value} {below : List Frame} {meth : Method} {c : Code} {k d mc ms L : Nat} {G : va_G} {cA : ClassId} {ad0 : Nat → Nat} {h0 : am_H} {A : Nat → Prop} {xs : Int → Int} {Z : State → Prop} {K : Nat → Nat → am_L → List am_V → am_H → Prop} {b pc cells slots : Nat} {ls : am_L} {st : List am_V} {h : am_H} {ad : Nat → Nat} {H : Heap} {locs : List Loc} {lsC : Array Slot} {a : Int} (F : so_F p R s m args c k d mc ms L G cA ad0 A xs) (KK : so_K p l e R s m args below meth c k mc ms L G cA ad0 h0 A xs Z K) (I : so_I s mc ms L G cA ad0 h0 A xs b cells slots h ad H locs) (Lo : so_L k ad h lsC ls (.inl a :: st)) (hd : decode (am_by k) pc = .ok (.i2l, 1)) (hK1 : K b (pc + 1) ls (.inr (.inl (Int64.ofInt a)) :: st) h) : W p l e R s m args below meth c H locs cells slots Z (F0 m pc lsC ((.inl a :: st).map (sv ad))) := by
  obtain ⟨⟨hx, hb, -⟩, -⟩ := F
  have oa : am_ok a := so_h0 Lo
  refine lv_i2l hx hb hd (v := Int64.ofInt a) ?_ (KK _ _ _ _ _ hK1 ad H locs cells slots lsC I (so_Lp Lo trivial mem1))
  apply Int64.toInt_inj.mp
  rw [Int32.toInt_toInt64, sI a oa, Int64.toInt_ofInt]
  have h1 := oa.1
  have h2 := oa.2
  have e : (Int64.size : Int) = 18446744073709551616 := rfl
  exact (Int.bmod_eq_of_le (by omega) (by omega)).symm
theorem s_l2i {p : Program} {l : Launch} {e : Env} {R : Room} {s : State} {m : MethodId} {args : Array Value} {below : List Frame} {meth : Method} {c : Code} {k d mc ms L : Nat} {G : va_G} {cA : ClassId} {ad0 : Nat → Nat} {h0 : am_H} {A : Nat → Prop} {xs : Int → Int} {Z : State → Prop} {K : Nat → Nat → am_L → List am_V → am_H → Prop} {b pc cells slots : Nat} {ls : am_L} {st : List am_V} {h : am_H} {ad : Nat → Nat} {H : Heap} {locs : List Loc} {lsC : Array Slot} {a : Int64} (F : so_F p R s m args c k d mc ms L G cA ad0 A xs) (KK : so_K p l e R s m args below meth c k mc ms L G cA ad0 h0 A xs Z K) (I : so_I s mc ms L G cA ad0 h0 A xs b cells slots h ad H locs) (Lo : so_L k ad h lsC ls (.inr (.inl a) :: st)) (hd : decode (am_by k) pc = .ok (.l2i, 1)) (hK1 : K b (pc + 1) ls (.inl a.toInt32.toInt :: st) h) : W p l e R s m args below meth c H locs cells slots Z (F0 m pc lsC ((.inr (.inl a) :: st).map (sv ad))) := by
  obtain ⟨⟨hx, hb, -⟩, -⟩ := F
  exact lv_l2i hx hb hd (v := Int32.ofInt a.toInt32.toInt) (sI_r _).symm (KK _ _ _ _ _ hK1 ad H locs cells slots lsC I (so_Lp Lo (sI_ok _) mem1))
theorem s_i2b {p : Program} {l : Launch} {e : Env} {R : Room} {s : State} {m : MethodId} {args : Array Value} {below : List Frame} {meth : Method} {c : Code} {k d mc ms L : Nat} {G : va_G} {cA : ClassId} {ad0 : Nat → Nat} {h0 : am_H} {A : Nat → Prop} {xs : Int → Int} {Z : State → Prop} {K : Nat → Nat → am_L → List am_V → am_H → Prop} {b pc cells slots : Nat} {ls : am_L} {st : List am_V} {h : am_H} {ad : Nat → Nat} {H : Heap} {locs : List Loc} {lsC : Array Slot} {a : Int} (F : so_F p R s m args c k d mc ms L G cA ad0 A xs) (KK : so_K p l e R s m args below meth c k mc ms L G cA ad0 h0 A xs Z K) (I : so_I s mc ms L G cA ad0 h0 A xs b cells slots h ad H locs) (Lo : so_L k ad h lsC ls (.inl a :: st)) (hd : decode (am_by k) pc = .ok (.i2b, 1)) (hK1 : K b (pc + 1) ls (.inl (Int32.ofInt a).toInt8.toInt :: st) h) : W p l e R s m args below meth c H locs cells slots Z (F0 m pc lsC ((.inl a :: st).map (sv ad))) := by
  obtain ⟨⟨hx, hb, -⟩, -⟩ := F
  have o : am_ok (Int32.ofInt a).toInt8.toInt := by
    have h1 := Int8.le_toInt (Int32.ofInt a).toInt8
    have h2 := Int8.toInt_lt (Int32.ofInt a).toInt8
    constructor <;> omega
  refine lv_i2b hx hb hd (v := Int32.ofInt (Int32.ofInt a).toInt8.toInt) ?_ (KK _ _ _ _ _ hK1 ad H locs cells slots lsC I (so_Lp Lo o mem1))
  apply Int32.toInt_inj.mp
  rw [sI _ o, Int8.toInt_toInt32]
theorem s_i2s {p : Program} {l : Launch} {e : Env} {R : Room} {s : State} {m : MethodId} {args : Array Value} {below : List Frame} {meth : Method} {c : Code} {k d mc ms L : Nat} {G : va_G} {cA : ClassId} {ad0 : Nat → Nat} {h0 : am_H} {A : Nat → Prop} {xs : Int → Int} {Z : State → Prop} {K : Nat → Nat → am_L → List am_V → am_H → Prop} {b pc cells slots : Nat} {ls : am_L} {st : List am_V} {h : am_H} {ad : Nat → Nat} {H : Heap} {locs : List Loc} {lsC : Array Slot} {a : Int} (F : so_F p R s m args c k d mc ms L G cA ad0 A xs) (KK : so_K p l e R s m args below meth c k mc ms L G cA ad0 h0 A xs Z K) (I : so_I s mc ms L G cA ad0 h0 A xs b cells slots h ad H locs) (Lo : so_L k ad h lsC ls (.inl a :: st)) (hd : decode (am_by k) pc = .ok (.i2s, 1)) (hK1 : K b (pc + 1) ls (.inl (Int32.ofInt a).toInt16.toInt :: st) h) : W p l e R s m args below meth c H locs cells slots Z (F0 m pc lsC ((.inl a :: st).map (sv ad))) := by
  obtain ⟨⟨hx, hb, -⟩, -⟩ := F
  have o : am_ok (Int32.ofInt a).toInt16.toInt := by
    have h1 := Int16.le_toInt (Int32.ofInt a).toInt16
    have h2 := Int16.toInt_lt (Int32.ofInt a).toInt16
    constructor <;> omega
  refine lv_i2s hx hb hd (v := Int32.ofInt (Int32.ofInt a).toInt16.toInt) ?_ (KK _ _ _ _ _ hK1 ad H locs cells slots lsC I (so_Lp Lo o mem1))
  apply Int32.toInt_inj.mp
  rw [sI _ o, Int16.toInt_toInt32]
theorem c1_cat {ad : Nat → Nat} {v : am_V} (h : am_c1 v) : (sv ad v).category = 1 := by
  rw [sv_cat]
  rcases v with z | y | q
  · rfl
  · exact h.elim
  · rfl
theorem s_dup {p : Program} {l : Launch} {e : Env} {R : Room} {s : State} {m : MethodId} {args : Array Value} {below : List Frame} {meth : Method} {c : Code} {k d mc ms L : Nat} {G : va_G} {cA : ClassId} {ad0 : Nat → Nat} {h0 : am_H} {A : Nat → Prop} {xs : Int → Int} {Z : State → Prop} {K : Nat → Nat → am_L → List am_V → am_H → Prop} {b pc cells slots : Nat} {ls : am_L} {st : List am_V} {h : am_H} {ad : Nat → Nat} {H : Heap} {locs : List Loc} {lsC : Array Slot} {v : am_V} (F : so_F p R s m args c k d mc ms L G cA ad0 A xs) (KK : so_K p l e R s m args below meth c k mc ms L G cA ad0 h0 A xs Z K) (I : so_I s mc ms L G cA ad0 h0 A xs b cells slots h ad H locs) (Lo : so_L k ad h lsC ls (v :: st)) (hd : decode (am_by k) pc = .ok (.dup, 1)) (hc : am_c1 v) (hK1 : K b (pc + 1) ls (v :: v :: st) h) : W p l e R s m args below meth c H locs cells slots Z (F0 m pc lsC ((v :: st).map (sv ad))) := by
  obtain ⟨⟨hx, hb, -⟩, -⟩ := F
  exact lv_dup hx hb hd (c1_cat hc) (KK _ _ _ _ _ hK1 ad H locs cells slots lsC I (so_Lp Lo (so_h0 Lo) (fun _ q => q)))
theorem s_dup_x1 {p : Program} {l : Launch} {e : Env} {R : Room} {s : State} {m : MethodId} {args : Array Value} {below : List Frame} {meth : Method} {c : Code} {k d mc ms L : Nat} {G : va_G} {cA : ClassId} {ad0 : Nat → Nat} {h0 : am_H} {A : Nat → Prop} {xs : Int → Int} {Z : State → Prop} {K : Nat → Nat → am_L → List am_V → am_H → Prop} {b pc cells slots : Nat} {ls : am_L} {st : List am_V} {h : am_H} {ad : Nat → Nat} {H : Heap} {locs : List Loc} {lsC : Array Slot} {v w : am_V} (F : so_F p R s m args c k d mc ms L G cA ad0 A xs) (KK : so_K p l e R s m args below meth c k mc ms L G cA ad0 h0 A xs Z K) (I : so_I s mc ms L G cA ad0 h0 A xs b cells slots h ad H locs) (Lo : so_L k ad h lsC ls (v :: w :: st)) (hd : decode (am_by k) pc = .ok (.dup_x1, 1)) (hc : am_c1 v ∧ am_c1 w) (hK1 : K b (pc + 1) ls (v :: w :: v :: st) h) : W p l e R s m args below meth c H locs cells slots Z (F0 m pc lsC ((v :: w :: st).map (sv ad))) := by
  obtain ⟨⟨hx, hb, -⟩, -⟩ := F
  refine lv_dup_x1 hx hb hd (c1_cat hc.1) (c1_cat hc.2) (KK _ _ _ _ _ hK1 ad H locs cells slots lsC I (so_Lp Lo (so_h0 Lo) (fun u q => ?_)))
  rcases List.mem_cons.mp q with z | z
  · rw [z]; exact List.mem_cons_of_mem _ List.mem_cons_self
  · rcases List.mem_cons.mp z with y | y
    · rw [y]; exact List.mem_cons_self
    · exact mem2 _ y
theorem s_dup2 {p : Program} {l : Launch} {e : Env} {R : Room} {s : State} {m : MethodId} {args : Array Value} {below : List Frame} {meth : Method} {c : Code} {k d mc ms L : Nat} {G : va_G} {cA : ClassId} {ad0 : Nat → Nat} {h0 : am_H} {A : Nat → Prop} {xs : Int → Int} {Z : State → Prop} {K : Nat → Nat → am_L → List am_V → am_H → Prop} {b pc cells slots : Nat} {ls : am_L} {st : List am_V} {h : am_H} {ad : Nat → Nat} {H : Heap} {locs : List Loc} {lsC : Array Slot} {v w : am_V} (F : so_F p R s m args c k d mc ms L G cA ad0 A xs) (KK : so_K p l e R s m args below meth c k mc ms L G cA ad0 h0 A xs Z K) (I : so_I s mc ms L G cA ad0 h0 A xs b cells slots h ad H locs) (Lo : so_L k ad h lsC ls (v :: w :: st)) (hd : decode (am_by k) pc = .ok (.dup2, 1)) (hc : am_c1 v ∧ am_c1 w) (hK1 : K b (pc + 1) ls (v :: w :: v :: w :: st) h) : W p l e R s m args below meth c H locs cells slots Z (F0 m pc lsC ((v :: w :: st).map (sv ad))) := by
  obtain ⟨⟨hx, hb, -⟩, -⟩ := F
  refine lv_dup2_11 hx hb hd (c1_cat hc.1) (c1_cat hc.2) (KK _ _ _ _ _ hK1 ad H locs cells slots lsC I (so_Lp Lo (so_h0 Lo) (fun u q => ?_)))
  rcases List.mem_cons.mp q with z | z
  · rw [z]; exact List.mem_cons_of_mem _ List.mem_cons_self
  · exact z
theorem am_if_t {c : Jvm.ClassFile.Cond} {x y : Int} {P R : Prop} (H : am_if c x y P R) : (match c with | .eq => x = y | .ne => ¬ x = y | .lt => x < y | .ge => y ≤ x | .gt => y < x | .le => x ≤ y) → P := by
  intro q
  cases c <;> unfold am_if at H <;> dsimp only at H q
  · rwa [if_pos q] at H
  · rwa [if_neg q] at H
  · rwa [if_pos q] at H
  · rwa [if_neg (by omega)] at H
  · rwa [if_pos q] at H
  · rwa [if_neg (by omega)] at H
theorem am_if_f {c : Jvm.ClassFile.Cond} {x y : Int} {P R : Prop} (H : am_if c x y P R) : ¬ (match c with | .eq => x = y | .ne => ¬ x = y | .lt => x < y | .ge => y ≤ x | .gt => y < x | .le => x ≤ y) → R := by
  intro q
  cases c <;> unfold am_if at H <;> dsimp only at H q
  · rwa [if_neg q] at H
  · rwa [if_pos (Classical.not_not.mp q)] at H
  · rwa [if_neg q] at H
  · rwa [if_pos (by omega)] at H
  · rwa [if_neg q] at H
  · rwa [if_pos (by omega)] at H
theorem s_ifCond {p : Program} {l : Launch} {e : Env} {R : Room} {s : State} {m : MethodId} {args : Array Value} {below : List Frame} {meth : Method} {c : Code} {k d mc ms L : Nat} {G : va_G} {cA : ClassId} {ad0 : Nat → Nat} {h0 : am_H} {A : Nat → Prop} {xs : Int → Int} {Z : State → Prop} {K : Nat → Nat → am_L → List am_V → am_H → Prop} {b pc cells slots : Nat} {ls : am_L} {st : List am_V} {h : am_H} {ad : Nat → Nat} {H : Heap} {locs : List Loc} {lsC : Array Slot} {cc : Jvm.ClassFile.Cond} {o : Int} {t : Nat} {a : Int} (F : so_F p R s m args c k d mc ms L G cA ad0 A xs) (KK : so_K p l e R s m args below meth c k mc ms L G cA ad0 h0 A xs Z K) (I : so_I s mc ms L G cA ad0 h0 A xs b cells slots h ad H locs) (Lo : so_L k ad h lsC ls (.inl a :: st)) (hd : decode (am_by k) pc = .ok (.ifCond cc o, 3)) (ht : (pc : Int) + o = (t : Int)) (hK1 : am_if cc a 0 (K b t ls st h) (K b (pc + 3) ls st h)) : W p l e R s m args below meth c H locs cells slots Z (F0 m pc lsC ((.inl a :: st).map (sv ad))) := by
  obtain ⟨⟨hx, hb, -⟩, -⟩ := F
  have oa : am_ok a := so_h0 Lo
  have oz : am_ok 0 := ⟨by decide, by decide⟩
  have L2 := so_Ld Lo mem1
  cases cc
  · exact lv_if_eq hx hb hd ht (fun q => KK _ _ _ _ _ (am_if_t hK1 ((sI_eq oa oz).mp q)) ad H locs cells slots lsC I L2) (fun q => KK _ _ _ _ _ (am_if_f hK1 (fun w => q ((sI_eq oa oz).mpr w))) ad H locs cells slots lsC I L2)
  · exact lv_if_ne hx hb hd ht (fun q => KK _ _ _ _ _ (am_if_t hK1 ((not_congr (sI_eq oa oz)).mp q)) ad H locs cells slots lsC I L2) (fun q => KK _ _ _ _ _ (am_if_f hK1 (fun w => w ((sI_eq oa oz).mp q))) ad H locs cells slots lsC I L2)
  · exact lv_if_lt hx hb hd ht (fun q => KK _ _ _ _ _ (am_if_t hK1 ((sI_lt oa oz).mp q)) ad H locs cells slots lsC I L2) (fun q => KK _ _ _ _ _ (am_if_f hK1 (fun w => q ((sI_lt oa oz).mpr w))) ad H locs cells slots lsC I L2)
  · exact lv_if_ge hx hb hd ht (fun q => KK _ _ _ _ _ (am_if_t hK1 ((sI_le oz oa).mp q)) ad H locs cells slots lsC I L2) (fun q => KK _ _ _ _ _ (am_if_f hK1 (fun w => q ((sI_le oz oa).mpr w))) ad H locs cells slots lsC I L2)
  · exact lv_if_gt hx hb hd ht (fun q => KK _ _ _ _ _ (am_if_t hK1 ((sI_lt oz oa).mp q)) ad H locs cells slots lsC I L2) (fun q => KK _ _ _ _ _ (am_if_f hK1 (fun w => q ((sI_lt oz oa).mpr w))) ad H locs cells slots lsC I L2)
  · exact lv_if_le hx hb hd ht (fun q => KK _ _ _ _ _ (am_if_t hK1 ((sI_le oa oz).mp q)) ad H locs cells slots lsC I L2) (fun q => KK _ _ _ _ _ (am_if_f hK1 (fun w => q ((sI_le oa oz).mpr w))) ad H locs cells slots lsC I L2)
theorem s_icmp {p : Program} {l : Launch} {e : Env} {R : Room} {s : State} {m : MethodId} {args : Array Value} {below : List Frame} {meth : Method} {c : Code} {k d mc ms L : Nat} {G : va_G} {cA : ClassId} {ad0 : Nat → Nat} {h0 : am_H} {A : Nat → Prop} {xs : Int → Int} {Z : State → Prop} {K : Nat → Nat → am_L → List am_V → am_H → Prop} {b pc cells slots : Nat} {ls : am_L} {st : List am_V} {h : am_H} {ad : Nat → Nat} {H : Heap} {locs : List Loc} {lsC : Array Slot} {cc : Jvm.ClassFile.Cond} {o : Int} {t : Nat} {a z : Int} (F : so_F p R s m args c k d mc ms L G cA ad0 A xs) (KK : so_K p l e R s m args below meth c k mc ms L G cA ad0 h0 A xs Z K) (I : so_I s mc ms L G cA ad0 h0 A xs b cells slots h ad H locs) (Lo : so_L k ad h lsC ls (.inl z :: .inl a :: st)) (hd : decode (am_by k) pc = .ok (.if_icmp cc o, 3)) (ht : (pc : Int) + o = (t : Int)) (hK1 : am_if cc a z (K b t ls st h) (K b (pc + 3) ls st h)) : W p l e R s m args below meth c H locs cells slots Z (F0 m pc lsC ((.inl z :: .inl a :: st).map (sv ad))) := by
  obtain ⟨⟨hx, hb, -⟩, -⟩ := F
  have oa : am_ok a := so_h1 Lo
  have oz : am_ok z := so_h0 Lo
  have L2 := so_Ld Lo mem2
  cases cc
  · exact lv_icmp_eq hx hb hd ht (fun q => KK _ _ _ _ _ (am_if_t hK1 ((sI_eq oa oz).mp q)) ad H locs cells slots lsC I L2) (fun q => KK _ _ _ _ _ (am_if_f hK1 (fun w => q ((sI_eq oa oz).mpr w))) ad H locs cells slots lsC I L2)
  · exact lv_icmp_ne hx hb hd ht (fun q => KK _ _ _ _ _ (am_if_t hK1 ((not_congr (sI_eq oa oz)).mp q)) ad H locs cells slots lsC I L2) (fun q => KK _ _ _ _ _ (am_if_f hK1 (fun w => w ((sI_eq oa oz).mp q))) ad H locs cells slots lsC I L2)
  · exact lv_icmp_lt hx hb hd ht (fun q => KK _ _ _ _ _ (am_if_t hK1 ((sI_lt oa oz).mp q)) ad H locs cells slots lsC I L2) (fun q => KK _ _ _ _ _ (am_if_f hK1 (fun w => q ((sI_lt oa oz).mpr w))) ad H locs cells slots lsC I L2)
  · exact lv_icmp_ge hx hb hd ht (fun q => KK _ _ _ _ _ (am_if_t hK1 ((sI_le oz oa).mp q)) ad H locs cells slots lsC I L2) (fun q => KK _ _ _ _ _ (am_if_f hK1 (fun w => q ((sI_le oz oa).mpr w))) ad H locs cells slots lsC I L2)
  · exact lv_icmp_gt hx hb hd ht (fun q => KK _ _ _ _ _ (am_if_t hK1 ((sI_lt oz oa).mp q)) ad H locs cells slots lsC I L2) (fun q => KK _ _ _ _ _ (am_if_f hK1 (fun w => q ((sI_lt oz oa).mpr w))) ad H locs cells slots lsC I L2)
  · exact lv_icmp_le hx hb hd ht (fun q => KK _ _ _ _ _ (am_if_t hK1 ((sI_le oa oz).mp q)) ad H locs cells slots lsC I L2) (fun q => KK _ _ _ _ _ (am_if_f hK1 (fun w => q ((sI_le oa oz).mpr w))) ad H locs cells slots lsC I L2)
theorem s_goto {p : Program} {l : Launch} {e : Env} {R : Room} {s : State} {m : MethodId} {args : Array Value} {below : List Frame} {meth : Method} {c : Code} {k d mc ms L : Nat} {G : va_G} {cA : ClassId} {ad0 : Nat → Nat} {h0 : am_H} {A : Nat → Prop} {xs : Int → Int} {Z : State → Prop} {K : Nat → Nat → am_L → List am_V → am_H → Prop} {b pc cells slots : Nat} {ls : am_L} {st : List am_V} {h : am_H} {ad : Nat → Nat} {H : Heap} {locs : List Loc} {lsC : Array Slot} {o : Int} {t : Nat} (F : so_F p R s m args c k d mc ms L G cA ad0 A xs) (KK : so_K p l e R s m args below meth c k mc ms L G cA ad0 h0 A xs Z K) (I : so_I s mc ms L G cA ad0 h0 A xs b cells slots h ad H locs) (Lo : so_L k ad h lsC ls (st)) (hd : decode (am_by k) pc = .ok (.goto o, 3)) (ht : (pc : Int) + o = (t : Int)) (hK1 : K b t ls st h) : W p l e R s m args below meth c H locs cells slots Z (F0 m pc lsC ((st).map (sv ad))) := by
  obtain ⟨⟨hx, hb, -⟩, -⟩ := F
  exact lv_goto hx hb hd ht (KK _ _ _ _ _ hK1 ad H locs cells slots lsC I Lo)
theorem am_sw_in {P : Nat → Prop} {x : Int} {d : Nat} : ∀ (ts : List Nat) (lo : Int), am_sw P x d lo ts → lo ≤ x → ∀ t, ts[(x - lo).toNat]? = some t → P t
  | [], lo, H, h1, t, h2 => by cases h2
  | u :: ts, lo, H, h1, t, h2 => by
    unfold am_sw at H
    by_cases z : x = lo
    · rw [if_pos z] at H
      rw [show (x - lo).toNat = 0 by omega] at h2
      cases h2; exact H
    · rw [if_neg z] at H
      rw [show (x - lo).toNat = (x - (lo + 1)).toNat + 1 by omega] at h2
      exact am_sw_in ts (lo + 1) H (by omega) t h2
theorem am_sw_out {P : Nat → Prop} {x : Int} {d : Nat} : ∀ (ts : List Nat) (lo : Int), am_sw P x d lo ts → x < lo ∨ lo + (ts.length : Int) ≤ x → P d
  | [], lo, H, h1 => H
  | u :: ts, lo, H, h1 => by
    unfold am_sw at H
    rw [List.length_cons] at h1
    rw [if_neg (by omega)] at H
    exact am_sw_out ts (lo + 1) H (by omega)
theorem am_lw_of {P : Nat → Prop} {x : Int} {pc : Nat} {d : Int} : ∀ (ps : List (Int × Int)), am_lw P x (am_tg pc d) (ps.map (fun q => (q.1, am_tg pc q.2))) → P (am_tg pc (Op.lookupswitch.offset ps d x))
  | [], H => H
  | (v, o) :: ps, H => by
    rw [List.map_cons] at H
    unfold am_lw at H
    rw [Op.lookupswitch.offset_cons]
    by_cases z : x = v
    · rw [if_pos z] at H; rw [if_pos z.symm]; exact H
    · rw [if_neg z] at H; rw [if_neg (fun w => z w.symm)]; exact am_lw_of ps H
theorem lw_off_mem {x d : Int} : ∀ (ps : List (Int × Int)), Op.lookupswitch.offset ps d x = d ∨ ∃ q ∈ ps, Op.lookupswitch.offset ps d x = q.2
  | [] => .inl rfl
  | (v, o) :: ps => by
    rw [Op.lookupswitch.offset_cons]
    by_cases z : v = x
    · rw [if_pos z]; exact .inr ⟨_, List.mem_cons_self, rfl⟩
    · rw [if_neg z]
      rcases lw_off_mem ps with w | ⟨q, w1, w2⟩
      · exact .inl w
      · exact .inr ⟨q, List.mem_cons_of_mem _ w1, w2⟩
theorem s_table {p : Program} {l : Launch} {e : Env} {R : Room} {s : State} {m : MethodId} {args : Array Value} {below : List Frame} {meth : Method} {c : Code} {k d mc ms L : Nat} {G : va_G} {cA : ClassId} {ad0 : Nat → Nat} {h0 : am_H} {A : Nat → Prop} {xs : Int → Int} {Z : State → Prop} {K : Nat → Nat → am_L → List am_V → am_H → Prop} {b pc cells slots : Nat} {ls : am_L} {st : List am_V} {h : am_H} {ad : Nat → Nat} {H : Heap} {locs : List Loc} {lsC : Array Slot} {dd lo hi : Int} {os : Array Int} {ln : Nat} {a : Int} (F : so_F p R s m args c k d mc ms L G cA ad0 A xs) (KK : so_K p l e R s m args below meth c k mc ms L G cA ad0 h0 A xs Z K) (I : so_I s mc ms L G cA ad0 h0 A xs b cells slots h ad H locs) (Lo : so_L k ad h lsC ls (.inl a :: st)) (hd : decode (am_by k) pc = .ok (.tableswitch dd lo hi os, ln)) (h1 : 0 ≤ (pc : Int) + dd) (h2 : ∀ o ∈ os.toList, 0 ≤ (pc : Int) + o) (h3 : hi = lo + (os.size : Int) - 1) (hK1 : am_sw (fun t => K b t ls st h) a (am_tg pc dd) lo (os.toList.map (am_tg pc))) : W p l e R s m args below meth c H locs cells slots Z (F0 m pc lsC ((.inl a :: st).map (sv ad))) := by
  obtain ⟨⟨hx, hb, -⟩, -⟩ := F
  have oa : am_ok a := so_h0 Lo
  have L2 := so_Ld Lo mem1
  have ea := sI a oa
  by_cases z : lo ≤ a ∧ a ≤ hi
  · have hl : (a - lo).toNat < os.toList.length := by rw [Array.length_toList]; omega
    have ho : os.toList[(a - lo).toNat]? = some os.toList[(a - lo).toNat] := List.getElem?_eq_getElem hl
    have hq := h2 _ (List.getElem_mem hl)
    generalize os.toList[(a - lo).toNat] = o at ho hq
    refine lv_tableIn hx hb hd (off := o) (tgt := am_tg pc o) (by omega) (by omega) (by rw [ea, ← Array.getElem?_toList]; exact ho) (by unfold am_tg; omega) (KK _ _ _ _ _ (am_sw_in _ _ hK1 z.1 (am_tg pc o) (by rw [List.getElem?_map, ho]; rfl)) ad H locs cells slots lsC I L2)
  · refine lv_tableOut hx hb hd (tgt := am_tg pc dd) (by omega) (by unfold am_tg; omega) (KK _ _ _ _ _ (am_sw_out _ _ hK1 (by rw [List.length_map, Array.length_toList]; omega)) ad H locs cells slots lsC I L2)
theorem s_lookup {p : Program} {l : Launch} {e : Env} {R : Room} {s : State} {m : MethodId} {args : Array Value} {below : List Frame} {meth : Method} {c : Code} {k d mc ms L : Nat} {G : va_G} {cA : ClassId} {ad0 : Nat → Nat} {h0 : am_H} {A : Nat → Prop} {xs : Int → Int} {Z : State → Prop} {K : Nat → Nat → am_L → List am_V → am_H → Prop} {b pc cells slots : Nat} {ls : am_L} {st : List am_V} {h : am_H} {ad : Nat → Nat} {H : Heap} {locs : List Loc} {lsC : Array Slot} {dd : Int} {ps : Array (Int × Int)} {ln : Nat} {a : Int} (F : so_F p R s m args c k d mc ms L G cA ad0 A xs) (KK : so_K p l e R s m args below meth c k mc ms L G cA ad0 h0 A xs Z K) (I : so_I s mc ms L G cA ad0 h0 A xs b cells slots h ad H locs) (Lo : so_L k ad h lsC ls (.inl a :: st)) (hd : decode (am_by k) pc = .ok (.lookupswitch dd ps, ln)) (h1 : 0 ≤ (pc : Int) + dd) (h2 : ∀ o ∈ ps.toList, 0 ≤ (pc : Int) + o.2) (h3 : (ps.toList.zip (ps.toList.drop 1)).all (fun (a, next) => a.1 < next.1) = true) (hK1 : am_lw (fun t => K b t ls st h) a (am_tg pc dd) (ps.toList.map (fun q => (q.1, am_tg pc q.2)))) : W p l e R s m args below meth c H locs cells slots Z (F0 m pc lsC ((.inl a :: st).map (sv ad))) := by
  obtain ⟨⟨hx, hb, -⟩, -⟩ := F
  have oa : am_ok a := so_h0 Lo
  have L2 := so_Ld Lo mem1
  have ea := sI a oa
  have hq : 0 ≤ (pc : Int) + Op.lookupswitch.offset ps.toList dd a := by
    rcases lw_off_mem (x := a) (d := dd) ps.toList with w | ⟨q, w1, w2⟩
    · rw [w]; exact h1
    · rw [w2]; exact h2 q w1
  exact lv_lookup hx hb hd h3 (by rw [ea]) (tgt := am_tg pc (Op.lookupswitch.offset ps.toList dd a)) (by unfold am_tg; omega) (KK _ _ _ _ _ (am_lw_of _ hK1) ad H locs cells slots lsC I L2)
