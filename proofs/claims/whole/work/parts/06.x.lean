theorem x_iconst {d k : Nat} {Q : am_Q} {b pc : Nat} {ls : am_L} {st : List am_V} {h : am_H} {nx t u : Nat} {x : Int} {i : Int} (hl : am_look k pc = some (.iconst i, nx, t, u, x)) (H : am_x (am_cd d) k Q b nx ls (.inl x :: st) h) : am_x (am_cd d) k Q b pc ls st h := am_x_of_i (am_cd_det d) hl H
theorem x_bipush {d k : Nat} {Q : am_Q} {b pc : Nat} {ls : am_L} {st : List am_V} {h : am_H} {nx t u : Nat} {x : Int} {i : Int} (hl : am_look k pc = some (.bipush i, nx, t, u, x)) (H : am_x (am_cd d) k Q b nx ls (.inl x :: st) h) : am_x (am_cd d) k Q b pc ls st h := am_x_of_i (am_cd_det d) hl H
theorem x_sipush {d k : Nat} {Q : am_Q} {b pc : Nat} {ls : am_L} {st : List am_V} {h : am_H} {nx t u : Nat} {x : Int} {i : Int} (hl : am_look k pc = some (.sipush i, nx, t, u, x)) (H : am_x (am_cd d) k Q b nx ls (.inl x :: st) h) : am_x (am_cd d) k Q b pc ls st h := am_x_of_i (am_cd_det d) hl H
theorem x_ldc {d k : Nat} {Q : am_Q} {b pc : Nat} {ls : am_L} {st : List am_V} {h : am_H} {nx t u : Nat} {x : Int} {i : Nat} (hl : am_look k pc = some (.ldc i, nx, t, u, x)) (H : am_x (am_cd d) k Q b nx ls (.inl x :: st) h) : am_x (am_cd d) k Q b pc ls st h := am_x_of_i (am_cd_det d) hl H
theorem x_ldc_w {d k : Nat} {Q : am_Q} {b pc : Nat} {ls : am_L} {st : List am_V} {h : am_H} {nx t u : Nat} {x : Int} {i : Nat} (hl : am_look k pc = some (.ldc_w i, nx, t, u, x)) (H : am_x (am_cd d) k Q b nx ls (.inl x :: st) h) : am_x (am_cd d) k Q b pc ls st h := am_x_of_i (am_cd_det d) hl H
theorem x_ldc2 {d k : Nat} {Q : am_Q} {b pc : Nat} {ls : am_L} {st : List am_V} {h : am_H} {nx t u : Nat} {x : Int} {i : Nat} (hl : am_look k pc = some (.ldc2_w i, nx, t, u, x)) (H : am_x (am_cd d) k Q b nx ls (.inr (.inl (Int64.ofInt x)) :: st) h) : am_x (am_cd d) k Q b pc ls st h := am_x_of_i (am_cd_det d) hl H
theorem x_iload_n {d k : Nat} {Q : am_Q} {b pc : Nat} {ls : am_L} {st : List am_V} {h : am_H} {nx t u : Nat} {x : Int} {i : Fin 4} {a : Int} (hl : am_look k pc = some (.iload_n i, nx, t, u, x)) (hg : am_g ls t = some (.inl a)) (H : am_x (am_cd d) k Q b nx ls (.inl a :: st) h) : am_x (am_cd d) k Q b pc ls st h := am_x_of_i (am_cd_det d) hl (by show (match am_g ls t with | some (.inl a) => am_x (am_cd d) k Q b nx ls (.inl a :: st) h | _ => False); rw [hg]; exact H)
theorem x_iload {d k : Nat} {Q : am_Q} {b pc : Nat} {ls : am_L} {st : List am_V} {h : am_H} {nx t u : Nat} {x : Int} {i : Nat} {a : Int} (hl : am_look k pc = some (.iload i, nx, t, u, x)) (hg : am_g ls t = some (.inl a)) (H : am_x (am_cd d) k Q b nx ls (.inl a :: st) h) : am_x (am_cd d) k Q b pc ls st h := am_x_of_i (am_cd_det d) hl (by show (match am_g ls t with | some (.inl a) => am_x (am_cd d) k Q b nx ls (.inl a :: st) h | _ => False); rw [hg]; exact H)
theorem x_aload_n {d k : Nat} {Q : am_Q} {b pc : Nat} {ls : am_L} {st : List am_V} {h : am_H} {nx t u : Nat} {x : Int} {i : Fin 4} {a : Nat} (hl : am_look k pc = some (.aload_n i, nx, t, u, x)) (hg : am_g ls t = some (.inr (.inr a))) (H : am_x (am_cd d) k Q b nx ls (.inr (.inr a) :: st) h) : am_x (am_cd d) k Q b pc ls st h := am_x_of_i (am_cd_det d) hl (by show (match am_g ls t with | some (.inr (.inr a)) => am_x (am_cd d) k Q b nx ls (.inr (.inr a) :: st) h | _ => False); rw [hg]; exact H)
theorem x_aload {d k : Nat} {Q : am_Q} {b pc : Nat} {ls : am_L} {st : List am_V} {h : am_H} {nx t u : Nat} {x : Int} {i : Nat} {a : Nat} (hl : am_look k pc = some (.aload i, nx, t, u, x)) (hg : am_g ls t = some (.inr (.inr a))) (H : am_x (am_cd d) k Q b nx ls (.inr (.inr a) :: st) h) : am_x (am_cd d) k Q b pc ls st h := am_x_of_i (am_cd_det d) hl (by show (match am_g ls t with | some (.inr (.inr a)) => am_x (am_cd d) k Q b nx ls (.inr (.inr a) :: st) h | _ => False); rw [hg]; exact H)
theorem x_lload_n {d k : Nat} {Q : am_Q} {b pc : Nat} {ls : am_L} {st : List am_V} {h : am_H} {nx t u : Nat} {x : Int} {i : Fin 4} {a : Int64} (hl : am_look k pc = some (.lload_n i, nx, t, u, x)) (hg : am_g ls t = some (.inr (.inl a))) (H : am_x (am_cd d) k Q b nx ls (.inr (.inl a) :: st) h) : am_x (am_cd d) k Q b pc ls st h := am_x_of_i (am_cd_det d) hl (by show (match am_g ls t with | some (.inr (.inl a)) => am_x (am_cd d) k Q b nx ls (.inr (.inl a) :: st) h | _ => False); rw [hg]; exact H)
theorem x_istore_n {d k : Nat} {Q : am_Q} {b pc : Nat} {ls : am_L} {st : List am_V} {h : am_H} {nx t u : Nat} {x : Int} {i : Fin 4} {a : Int} (hl : am_look k pc = some (.istore_n i, nx, t, u, x)) (hs : am_s1 ls t) (H : am_x (am_cd d) k Q b nx (am_p ls t (.inl a)) st h) : am_x (am_cd d) k Q b pc ls (.inl a :: st) h := am_x_of_i (am_cd_det d) hl ⟨hs, H⟩
theorem x_istore {d k : Nat} {Q : am_Q} {b pc : Nat} {ls : am_L} {st : List am_V} {h : am_H} {nx t u : Nat} {x : Int} {i : Nat} {a : Int} (hl : am_look k pc = some (.istore i, nx, t, u, x)) (hs : am_s1 ls t) (H : am_x (am_cd d) k Q b nx (am_p ls t (.inl a)) st h) : am_x (am_cd d) k Q b pc ls (.inl a :: st) h := am_x_of_i (am_cd_det d) hl ⟨hs, H⟩
theorem x_astore_n {d k : Nat} {Q : am_Q} {b pc : Nat} {ls : am_L} {st : List am_V} {h : am_H} {nx t u : Nat} {x : Int} {i : Fin 4} {a : Nat} (hl : am_look k pc = some (.astore_n i, nx, t, u, x)) (hs : am_s1 ls t) (H : am_x (am_cd d) k Q b nx (am_p ls t (.inr (.inr a))) st h) : am_x (am_cd d) k Q b pc ls (.inr (.inr a) :: st) h := am_x_of_i (am_cd_det d) hl ⟨hs, H⟩
theorem x_astore {d k : Nat} {Q : am_Q} {b pc : Nat} {ls : am_L} {st : List am_V} {h : am_H} {nx t u : Nat} {x : Int} {i : Nat} {a : Nat} (hl : am_look k pc = some (.astore i, nx, t, u, x)) (hs : am_s1 ls t) (H : am_x (am_cd d) k Q b nx (am_p ls t (.inr (.inr a))) st h) : am_x (am_cd d) k Q b pc ls (.inr (.inr a) :: st) h := am_x_of_i (am_cd_det d) hl ⟨hs, H⟩
theorem x_iinc {d k : Nat} {Q : am_Q} {b pc : Nat} {ls : am_L} {st : List am_V} {h : am_H} {nx t u : Nat} {x : Int} {i : Nat} {j a : Int} (hl : am_look k pc = some (.iinc i j, nx, t, u, x)) (hg : am_g ls t = some (.inl a)) (hs : am_s1 ls t) (ho : am_ok (a + x)) (H : am_x (am_cd d) k Q b nx (am_p ls t (.inl (a + x))) st h) : am_x (am_cd d) k Q b pc ls st h := am_x_of_i (am_cd_det d) hl (by show (match am_g ls t with | some (.inl a) => am_ok (a + x) ∧ am_s1 ls t ∧ am_x (am_cd d) k Q b nx (am_p ls t (.inl (a + x))) st h | _ => False); rw [hg]; exact ⟨ho, hs, H⟩)
theorem x_iadd {d k : Nat} {Q : am_Q} {b pc : Nat} {ls : am_L} {st : List am_V} {h : am_H} {nx t u : Nat} {x : Int} {a c : Int} (hl : am_look k pc = some (.iadd, nx, t, u, x)) (ho : am_ok (a + c)) (H : am_x (am_cd d) k Q b nx ls (.inl (a + c) :: st) h) : am_x (am_cd d) k Q b pc ls (.inl c :: .inl a :: st) h := am_x_of_i (am_cd_det d) hl ⟨ho, H⟩
theorem x_isub {d k : Nat} {Q : am_Q} {b pc : Nat} {ls : am_L} {st : List am_V} {h : am_H} {nx t u : Nat} {x : Int} {a c : Int} (hl : am_look k pc = some (.isub, nx, t, u, x)) (ho : am_ok (a - c)) (H : am_x (am_cd d) k Q b nx ls (.inl (a - c) :: st) h) : am_x (am_cd d) k Q b pc ls (.inl c :: .inl a :: st) h := am_x_of_i (am_cd_det d) hl ⟨ho, H⟩
theorem x_imul {d k : Nat} {Q : am_Q} {b pc : Nat} {ls : am_L} {st : List am_V} {h : am_H} {nx t u : Nat} {x : Int} {a c : Int} (hl : am_look k pc = some (.imul, nx, t, u, x)) (ho : am_ok (a * c)) (H : am_x (am_cd d) k Q b nx ls (.inl (a * c) :: st) h) : am_x (am_cd d) k Q b pc ls (.inl c :: .inl a :: st) h := am_x_of_i (am_cd_det d) hl ⟨ho, H⟩
theorem x_idiv {d k : Nat} {Q : am_Q} {b pc : Nat} {ls : am_L} {st : List am_V} {h : am_H} {nx t u : Nat} {x : Int} {a c : Int} (hl : am_look k pc = some (.idiv, nx, t, u, x)) (ho : 0 < c ∧ 0 ≤ a) (H : am_x (am_cd d) k Q b nx ls (.inl (a / c) :: st) h) : am_x (am_cd d) k Q b pc ls (.inl c :: .inl a :: st) h := am_x_of_i (am_cd_det d) hl ⟨ho, H⟩
theorem x_irem {d k : Nat} {Q : am_Q} {b pc : Nat} {ls : am_L} {st : List am_V} {h : am_H} {nx t u : Nat} {x : Int} {a c : Int} (hl : am_look k pc = some (.irem, nx, t, u, x)) (ho : 0 < c ∧ 0 ≤ a) (H : am_x (am_cd d) k Q b nx ls (.inl (a % c) :: st) h) : am_x (am_cd d) k Q b pc ls (.inl c :: .inl a :: st) h := am_x_of_i (am_cd_det d) hl ⟨ho, H⟩
theorem x_iand {d k : Nat} {Q : am_Q} {b pc : Nat} {ls : am_L} {st : List am_V} {h : am_H} {nx t u : Nat} {x : Int} {a c : Int} (hl : am_look k pc = some (.iand, nx, t, u, x)) (H : am_x (am_cd d) k Q b nx ls (.inl (am_and a c) :: st) h) : am_x (am_cd d) k Q b pc ls (.inl c :: .inl a :: st) h := am_x_of_i (am_cd_det d) hl H
theorem x_ior {d k : Nat} {Q : am_Q} {b pc : Nat} {ls : am_L} {st : List am_V} {h : am_H} {nx t u : Nat} {x : Int} {a c : Int} (hl : am_look k pc = some (.ior, nx, t, u, x)) (H : am_x (am_cd d) k Q b nx ls (.inl (am_or a c) :: st) h) : am_x (am_cd d) k Q b pc ls (.inl c :: .inl a :: st) h := am_x_of_i (am_cd_det d) hl H
theorem x_ixor {d k : Nat} {Q : am_Q} {b pc : Nat} {ls : am_L} {st : List am_V} {h : am_H} {nx t u : Nat} {x : Int} {a c : Int} (hl : am_look k pc = some (.ixor, nx, t, u, x)) (H : am_x (am_cd d) k Q b nx ls (.inl (am_xor a c) :: st) h) : am_x (am_cd d) k Q b pc ls (.inl c :: .inl a :: st) h := am_x_of_i (am_cd_det d) hl H
theorem x_ishl {d k : Nat} {Q : am_Q} {b pc : Nat} {ls : am_L} {st : List am_V} {h : am_H} {nx t u : Nat} {x : Int} {a c : Int} (hl : am_look k pc = some (.ishl, nx, t, u, x)) (H : am_x (am_cd d) k Q b nx ls (.inl (am_shl a c) :: st) h) : am_x (am_cd d) k Q b pc ls (.inl c :: .inl a :: st) h := am_x_of_i (am_cd_det d) hl H
theorem x_ishr {d k : Nat} {Q : am_Q} {b pc : Nat} {ls : am_L} {st : List am_V} {h : am_H} {nx t u : Nat} {x : Int} {a c : Int} (hl : am_look k pc = some (.ishr, nx, t, u, x)) (H : am_x (am_cd d) k Q b nx ls (.inl (am_shr a c) :: st) h) : am_x (am_cd d) k Q b pc ls (.inl c :: .inl a :: st) h := am_x_of_i (am_cd_det d) hl H
theorem x_iushr {d k : Nat} {Q : am_Q} {b pc : Nat} {ls : am_L} {st : List am_V} {h : am_H} {nx t u : Nat} {x : Int} {a c : Int} (hl : am_look k pc = some (.iushr, nx, t, u, x)) (H : am_x (am_cd d) k Q b nx ls (.inl (am_ushr a c) :: st) h) : am_x (am_cd d) k Q b pc ls (.inl c :: .inl a :: st) h := am_x_of_i (am_cd_det d) hl H
theorem x_ladd {d k : Nat} {Q : am_Q} {b pc : Nat} {ls : am_L} {st : List am_V} {h : am_H} {nx t u : Nat} {x : Int} {a c : Int64} (hl : am_look k pc = some (.ladd, nx, t, u, x)) (H : am_x (am_cd d) k Q b nx ls (.inr (.inl (a + c)) :: st) h) : am_x (am_cd d) k Q b pc ls (.inr (.inl c) :: .inr (.inl a) :: st) h := am_x_of_i (am_cd_det d) hl H
theorem x_land {d k : Nat} {Q : am_Q} {b pc : Nat} {ls : am_L} {st : List am_V} {h : am_H} {nx t u : Nat} {x : Int} {a c : Int64} (hl : am_look k pc = some (.land, nx, t, u, x)) (H : am_x (am_cd d) k Q b nx ls (.inr (.inl (a &&& c)) :: st) h) : am_x (am_cd d) k Q b pc ls (.inr (.inl c) :: .inr (.inl a) :: st) h := am_x_of_i (am_cd_det d) hl H
theorem x_lor {d k : Nat} {Q : am_Q} {b pc : Nat} {ls : am_L} {st : List am_V} {h : am_H} {nx t u : Nat} {x : Int} {a c : Int64} (hl : am_look k pc = some (.lor, nx, t, u, x)) (H : am_x (am_cd d) k Q b nx ls (.inr (.inl (a ||| c)) :: st) h) : am_x (am_cd d) k Q b pc ls (.inr (.inl c) :: .inr (.inl a) :: st) h := am_x_of_i (am_cd_det d) hl H
theorem x_lshl {d k : Nat} {Q : am_Q} {b pc : Nat} {ls : am_L} {st : List am_V} {h : am_H} {nx t u : Nat} {x : Int} {a : Int64} {c : Int} (hl : am_look k pc = some (.lshl, nx, t, u, x)) (H : am_x (am_cd d) k Q b nx ls (.inr (.inl (am_lshl a c)) :: st) h) : am_x (am_cd d) k Q b pc ls (.inl c :: .inr (.inl a) :: st) h := am_x_of_i (am_cd_det d) hl H
theorem x_lshr {d k : Nat} {Q : am_Q} {b pc : Nat} {ls : am_L} {st : List am_V} {h : am_H} {nx t u : Nat} {x : Int} {a : Int64} {c : Int} (hl : am_look k pc = some (.lshr, nx, t, u, x)) (H : am_x (am_cd d) k Q b nx ls (.inr (.inl (am_lshr a c)) :: st) h) : am_x (am_cd d) k Q b pc ls (.inl c :: .inr (.inl a) :: st) h := am_x_of_i (am_cd_det d) hl H
theorem x_lushr {d k : Nat} {Q : am_Q} {b pc : Nat} {ls : am_L} {st : List am_V} {h : am_H} {nx t u : Nat} {x : Int} {a : Int64} {c : Int} (hl : am_look k pc = some (.lushr, nx, t, u, x)) (H : am_x (am_cd d) k Q b nx ls (.inr (.inl (am_lushr a c)) :: st) h) : am_x (am_cd d) k Q b pc ls (.inl c :: .inr (.inl a) :: st) h := am_x_of_i (am_cd_det d) hl H
theorem x_lcmp {d k : Nat} {Q : am_Q} {b pc : Nat} {ls : am_L} {st : List am_V} {h : am_H} {nx t u : Nat} {x : Int} {a c : Int64} (hl : am_look k pc = some (.lcmp, nx, t, u, x)) (H : am_x (am_cd d) k Q b nx ls (.inl (am_lc a c) :: st) h) : am_x (am_cd d) k Q b pc ls (.inr (.inl c) :: .inr (.inl a) :: st) h := am_x_of_i (am_cd_det d) hl H
theorem x_i2l {d k : Nat} {Q : am_Q} {b pc : Nat} {ls : am_L} {st : List am_V} {h : am_H} {nx t u : Nat} {x : Int} {a : Int} (hl : am_look k pc = some (.i2l, nx, t, u, x)) (H : am_x (am_cd d) k Q b nx ls (.inr (.inl (Int64.ofInt a)) :: st) h) : am_x (am_cd d) k Q b pc ls (.inl a :: st) h := am_x_of_i (am_cd_det d) hl H
theorem x_l2i {d k : Nat} {Q : am_Q} {b pc : Nat} {ls : am_L} {st : List am_V} {h : am_H} {nx t u : Nat} {x : Int} {a : Int64} (hl : am_look k pc = some (.l2i, nx, t, u, x)) (H : am_x (am_cd d) k Q b nx ls (.inl a.toInt32.toInt :: st) h) : am_x (am_cd d) k Q b pc ls (.inr (.inl a) :: st) h := am_x_of_i (am_cd_det d) hl H
theorem x_i2b {d k : Nat} {Q : am_Q} {b pc : Nat} {ls : am_L} {st : List am_V} {h : am_H} {nx t u : Nat} {x : Int} {a : Int} (hl : am_look k pc = some (.i2b, nx, t, u, x)) (H : am_x (am_cd d) k Q b nx ls (.inl (Int32.ofInt a).toInt8.toInt :: st) h) : am_x (am_cd d) k Q b pc ls (.inl a :: st) h := am_x_of_i (am_cd_det d) hl H
theorem x_i2s {d k : Nat} {Q : am_Q} {b pc : Nat} {ls : am_L} {st : List am_V} {h : am_H} {nx t u : Nat} {x : Int} {a : Int} (hl : am_look k pc = some (.i2s, nx, t, u, x)) (H : am_x (am_cd d) k Q b nx ls (.inl (Int32.ofInt a).toInt16.toInt :: st) h) : am_x (am_cd d) k Q b pc ls (.inl a :: st) h := am_x_of_i (am_cd_det d) hl H
theorem x_dup {d k : Nat} {Q : am_Q} {b pc : Nat} {ls : am_L} {st : List am_V} {h : am_H} {nx t u : Nat} {x : Int} {v : am_V} (hl : am_look k pc = some (.dup, nx, t, u, x)) (hv : am_c1 v) (H : am_x (am_cd d) k Q b nx ls (v :: v :: st) h) : am_x (am_cd d) k Q b pc ls (v :: st) h := am_x_of_i (am_cd_det d) hl ⟨hv, H⟩
theorem x_dup_x1 {d k : Nat} {Q : am_Q} {b pc : Nat} {ls : am_L} {st : List am_V} {h : am_H} {nx t u : Nat} {x : Int} {v w : am_V} (hl : am_look k pc = some (.dup_x1, nx, t, u, x)) (hv : am_c1 v ∧ am_c1 w) (H : am_x (am_cd d) k Q b nx ls (v :: w :: v :: st) h) : am_x (am_cd d) k Q b pc ls (v :: w :: st) h := am_x_of_i (am_cd_det d) hl ⟨hv, H⟩
theorem x_dup2 {d k : Nat} {Q : am_Q} {b pc : Nat} {ls : am_L} {st : List am_V} {h : am_H} {nx t u : Nat} {x : Int} {v w : am_V} (hl : am_look k pc = some (.dup2, nx, t, u, x)) (hv : am_c1 v ∧ am_c1 w) (H : am_x (am_cd d) k Q b nx ls (v :: w :: v :: w :: st) h) : am_x (am_cd d) k Q b pc ls (v :: w :: st) h := am_x_of_i (am_cd_det d) hl ⟨hv, H⟩
theorem x_goto {d k : Nat} {Q : am_Q} {b pc : Nat} {ls : am_L} {st : List am_V} {h : am_H} {nx t u : Nat} {x : Int} {i : Int} (hl : am_look k pc = some (.goto i, nx, t, u, x)) (H : am_x (am_cd d) k Q b t ls st h) : am_x (am_cd d) k Q b pc ls st h := am_x_of_i (am_cd_det d) hl H
theorem x_if_eq {d k : Nat} {Q : am_Q} {b pc : Nat} {ls : am_L} {st : List am_V} {h : am_H} {nx t u : Nat} {x : Int} {i a : Int} (hl : am_look k pc = some (.ifCond .eq i, nx, t, u, x)) (HT : a = 0 → am_x (am_cd d) k Q b t ls st h) (HF : a ≠ 0 → am_x (am_cd d) k Q b nx ls st h) : am_x (am_cd d) k Q b pc ls (.inl a :: st) h := am_x_of_i (am_cd_det d) hl (show (if a = 0 then am_x (am_cd d) k Q b t ls st h else am_x (am_cd d) k Q b nx ls st h) from if q : a = 0 then (by rw [if_pos q]; exact HT q) else (by rw [if_neg q]; exact HF q))
theorem x_if_eq_t {d k : Nat} {Q : am_Q} {b pc : Nat} {ls : am_L} {st : List am_V} {h : am_H} {nx t u : Nat} {x : Int} {i a : Int} (hl : am_look k pc = some (.ifCond .eq i, nx, t, u, x)) (hc : a = 0) (H : am_x (am_cd d) k Q b t ls st h) : am_x (am_cd d) k Q b pc ls (.inl a :: st) h := x_if_eq hl (fun _ => H) (fun q => absurd hc q)
theorem x_if_eq_f {d k : Nat} {Q : am_Q} {b pc : Nat} {ls : am_L} {st : List am_V} {h : am_H} {nx t u : Nat} {x : Int} {i a : Int} (hl : am_look k pc = some (.ifCond .eq i, nx, t, u, x)) (hc : a ≠ 0) (H : am_x (am_cd d) k Q b nx ls st h) : am_x (am_cd d) k Q b pc ls (.inl a :: st) h := x_if_eq hl (fun q => absurd q hc) (fun _ => H)
theorem x_icmp_eq {d k : Nat} {Q : am_Q} {b pc : Nat} {ls : am_L} {st : List am_V} {h : am_H} {nx t u : Nat} {x : Int} {i a c : Int} (hl : am_look k pc = some (.if_icmp .eq i, nx, t, u, x)) (HT : a = c → am_x (am_cd d) k Q b t ls st h) (HF : a ≠ c → am_x (am_cd d) k Q b nx ls st h) : am_x (am_cd d) k Q b pc ls (.inl c :: .inl a :: st) h := am_x_of_i (am_cd_det d) hl (show (if a = c then am_x (am_cd d) k Q b t ls st h else am_x (am_cd d) k Q b nx ls st h) from if q : a = c then (by rw [if_pos q]; exact HT q) else (by rw [if_neg q]; exact HF q))
theorem x_icmp_eq_t {d k : Nat} {Q : am_Q} {b pc : Nat} {ls : am_L} {st : List am_V} {h : am_H} {nx t u : Nat} {x : Int} {i a c : Int} (hl : am_look k pc = some (.if_icmp .eq i, nx, t, u, x)) (hc : a = c) (H : am_x (am_cd d) k Q b t ls st h) : am_x (am_cd d) k Q b pc ls (.inl c :: .inl a :: st) h := x_icmp_eq hl (fun _ => H) (fun q => absurd hc q)
theorem x_icmp_eq_f {d k : Nat} {Q : am_Q} {b pc : Nat} {ls : am_L} {st : List am_V} {h : am_H} {nx t u : Nat} {x : Int} {i a c : Int} (hl : am_look k pc = some (.if_icmp .eq i, nx, t, u, x)) (hc : a ≠ c) (H : am_x (am_cd d) k Q b nx ls st h) : am_x (am_cd d) k Q b pc ls (.inl c :: .inl a :: st) h := x_icmp_eq hl (fun q => absurd q hc) (fun _ => H)
theorem x_if_ne {d k : Nat} {Q : am_Q} {b pc : Nat} {ls : am_L} {st : List am_V} {h : am_H} {nx t u : Nat} {x : Int} {i a : Int} (hl : am_look k pc = some (.ifCond .ne i, nx, t, u, x)) (HT : a ≠ 0 → am_x (am_cd d) k Q b t ls st h) (HF : a = 0 → am_x (am_cd d) k Q b nx ls st h) : am_x (am_cd d) k Q b pc ls (.inl a :: st) h := am_x_of_i (am_cd_det d) hl (show (if a = 0 then am_x (am_cd d) k Q b nx ls st h else am_x (am_cd d) k Q b t ls st h) from if q : a = 0 then (by rw [if_pos q]; exact HF q) else (by rw [if_neg q]; exact HT q))
theorem x_if_ne_t {d k : Nat} {Q : am_Q} {b pc : Nat} {ls : am_L} {st : List am_V} {h : am_H} {nx t u : Nat} {x : Int} {i a : Int} (hl : am_look k pc = some (.ifCond .ne i, nx, t, u, x)) (hc : a ≠ 0) (H : am_x (am_cd d) k Q b t ls st h) : am_x (am_cd d) k Q b pc ls (.inl a :: st) h := x_if_ne hl (fun _ => H) (fun q => absurd q hc)
theorem x_if_ne_f {d k : Nat} {Q : am_Q} {b pc : Nat} {ls : am_L} {st : List am_V} {h : am_H} {nx t u : Nat} {x : Int} {i a : Int} (hl : am_look k pc = some (.ifCond .ne i, nx, t, u, x)) (hc : a = 0) (H : am_x (am_cd d) k Q b nx ls st h) : am_x (am_cd d) k Q b pc ls (.inl a :: st) h := x_if_ne hl (fun q => absurd hc q) (fun _ => H)
theorem x_icmp_ne {d k : Nat} {Q : am_Q} {b pc : Nat} {ls : am_L} {st : List am_V} {h : am_H} {nx t u : Nat} {x : Int} {i a c : Int} (hl : am_look k pc = some (.if_icmp .ne i, nx, t, u, x)) (HT : a ≠ c → am_x (am_cd d) k Q b t ls st h) (HF : a = c → am_x (am_cd d) k Q b nx ls st h) : am_x (am_cd d) k Q b pc ls (.inl c :: .inl a :: st) h := am_x_of_i (am_cd_det d) hl (show (if a = c then am_x (am_cd d) k Q b nx ls st h else am_x (am_cd d) k Q b t ls st h) from if q : a = c then (by rw [if_pos q]; exact HF q) else (by rw [if_neg q]; exact HT q))
theorem x_icmp_ne_t {d k : Nat} {Q : am_Q} {b pc : Nat} {ls : am_L} {st : List am_V} {h : am_H} {nx t u : Nat} {x : Int} {i a c : Int} (hl : am_look k pc = some (.if_icmp .ne i, nx, t, u, x)) (hc : a ≠ c) (H : am_x (am_cd d) k Q b t ls st h) : am_x (am_cd d) k Q b pc ls (.inl c :: .inl a :: st) h := x_icmp_ne hl (fun _ => H) (fun q => absurd q hc)
theorem x_icmp_ne_f {d k : Nat} {Q : am_Q} {b pc : Nat} {ls : am_L} {st : List am_V} {h : am_H} {nx t u : Nat} {x : Int} {i a c : Int} (hl : am_look k pc = some (.if_icmp .ne i, nx, t, u, x)) (hc : a = c) (H : am_x (am_cd d) k Q b nx ls st h) : am_x (am_cd d) k Q b pc ls (.inl c :: .inl a :: st) h := x_icmp_ne hl (fun q => absurd hc q) (fun _ => H)
theorem x_if_lt {d k : Nat} {Q : am_Q} {b pc : Nat} {ls : am_L} {st : List am_V} {h : am_H} {nx t u : Nat} {x : Int} {i a : Int} (hl : am_look k pc = some (.ifCond .lt i, nx, t, u, x)) (HT : a < 0 → am_x (am_cd d) k Q b t ls st h) (HF : 0 ≤ a → am_x (am_cd d) k Q b nx ls st h) : am_x (am_cd d) k Q b pc ls (.inl a :: st) h := am_x_of_i (am_cd_det d) hl (show (if a < 0 then am_x (am_cd d) k Q b t ls st h else am_x (am_cd d) k Q b nx ls st h) from if q : a < 0 then (by rw [if_pos q]; exact HT q) else (by rw [if_neg q]; exact HF (Int.not_lt.mp q)))
theorem x_if_lt_t {d k : Nat} {Q : am_Q} {b pc : Nat} {ls : am_L} {st : List am_V} {h : am_H} {nx t u : Nat} {x : Int} {i a : Int} (hl : am_look k pc = some (.ifCond .lt i, nx, t, u, x)) (hc : a < 0) (H : am_x (am_cd d) k Q b t ls st h) : am_x (am_cd d) k Q b pc ls (.inl a :: st) h := x_if_lt hl (fun _ => H) (fun q => absurd hc (Int.not_lt.mpr q))
theorem x_if_lt_f {d k : Nat} {Q : am_Q} {b pc : Nat} {ls : am_L} {st : List am_V} {h : am_H} {nx t u : Nat} {x : Int} {i a : Int} (hl : am_look k pc = some (.ifCond .lt i, nx, t, u, x)) (hc : 0 ≤ a) (H : am_x (am_cd d) k Q b nx ls st h) : am_x (am_cd d) k Q b pc ls (.inl a :: st) h := x_if_lt hl (fun q => absurd q (Int.not_lt.mpr hc)) (fun _ => H)
theorem x_icmp_lt {d k : Nat} {Q : am_Q} {b pc : Nat} {ls : am_L} {st : List am_V} {h : am_H} {nx t u : Nat} {x : Int} {i a c : Int} (hl : am_look k pc = some (.if_icmp .lt i, nx, t, u, x)) (HT : a < c → am_x (am_cd d) k Q b t ls st h) (HF : c ≤ a → am_x (am_cd d) k Q b nx ls st h) : am_x (am_cd d) k Q b pc ls (.inl c :: .inl a :: st) h := am_x_of_i (am_cd_det d) hl (show (if a < c then am_x (am_cd d) k Q b t ls st h else am_x (am_cd d) k Q b nx ls st h) from if q : a < c then (by rw [if_pos q]; exact HT q) else (by rw [if_neg q]; exact HF (Int.not_lt.mp q)))
theorem x_icmp_lt_t {d k : Nat} {Q : am_Q} {b pc : Nat} {ls : am_L} {st : List am_V} {h : am_H} {nx t u : Nat} {x : Int} {i a c : Int} (hl : am_look k pc = some (.if_icmp .lt i, nx, t, u, x)) (hc : a < c) (H : am_x (am_cd d) k Q b t ls st h) : am_x (am_cd d) k Q b pc ls (.inl c :: .inl a :: st) h := x_icmp_lt hl (fun _ => H) (fun q => absurd hc (Int.not_lt.mpr q))
theorem x_icmp_lt_f {d k : Nat} {Q : am_Q} {b pc : Nat} {ls : am_L} {st : List am_V} {h : am_H} {nx t u : Nat} {x : Int} {i a c : Int} (hl : am_look k pc = some (.if_icmp .lt i, nx, t, u, x)) (hc : c ≤ a) (H : am_x (am_cd d) k Q b nx ls st h) : am_x (am_cd d) k Q b pc ls (.inl c :: .inl a :: st) h := x_icmp_lt hl (fun q => absurd q (Int.not_lt.mpr hc)) (fun _ => H)
theorem x_if_ge {d k : Nat} {Q : am_Q} {b pc : Nat} {ls : am_L} {st : List am_V} {h : am_H} {nx t u : Nat} {x : Int} {i a : Int} (hl : am_look k pc = some (.ifCond .ge i, nx, t, u, x)) (HT : 0 ≤ a → am_x (am_cd d) k Q b t ls st h) (HF : a < 0 → am_x (am_cd d) k Q b nx ls st h) : am_x (am_cd d) k Q b pc ls (.inl a :: st) h := am_x_of_i (am_cd_det d) hl (show (if a < 0 then am_x (am_cd d) k Q b nx ls st h else am_x (am_cd d) k Q b t ls st h) from if q : a < 0 then (by rw [if_pos q]; exact HF q) else (by rw [if_neg q]; exact HT (Int.not_lt.mp q)))
theorem x_if_ge_t {d k : Nat} {Q : am_Q} {b pc : Nat} {ls : am_L} {st : List am_V} {h : am_H} {nx t u : Nat} {x : Int} {i a : Int} (hl : am_look k pc = some (.ifCond .ge i, nx, t, u, x)) (hc : 0 ≤ a) (H : am_x (am_cd d) k Q b t ls st h) : am_x (am_cd d) k Q b pc ls (.inl a :: st) h := x_if_ge hl (fun _ => H) (fun q => absurd q (Int.not_lt.mpr hc))
theorem x_if_ge_f {d k : Nat} {Q : am_Q} {b pc : Nat} {ls : am_L} {st : List am_V} {h : am_H} {nx t u : Nat} {x : Int} {i a : Int} (hl : am_look k pc = some (.ifCond .ge i, nx, t, u, x)) (hc : a < 0) (H : am_x (am_cd d) k Q b nx ls st h) : am_x (am_cd d) k Q b pc ls (.inl a :: st) h := x_if_ge hl (fun q => absurd hc (Int.not_lt.mpr q)) (fun _ => H)
theorem x_icmp_ge {d k : Nat} {Q : am_Q} {b pc : Nat} {ls : am_L} {st : List am_V} {h : am_H} {nx t u : Nat} {x : Int} {i a c : Int} (hl : am_look k pc = some (.if_icmp .ge i, nx, t, u, x)) (HT : c ≤ a → am_x (am_cd d) k Q b t ls st h) (HF : a < c → am_x (am_cd d) k Q b nx ls st h) : am_x (am_cd d) k Q b pc ls (.inl c :: .inl a :: st) h := am_x_of_i (am_cd_det d) hl (show (if a < c then am_x (am_cd d) k Q b nx ls st h else am_x (am_cd d) k Q b t ls st h) from if q : a < c then (by rw [if_pos q]; exact HF q) else (by rw [if_neg q]; exact HT (Int.not_lt.mp q)))
theorem x_icmp_ge_t {d k : Nat} {Q : am_Q} {b pc : Nat} {ls : am_L} {st : List am_V} {h : am_H} {nx t u : Nat} {x : Int} {i a c : Int} (hl : am_look k pc = some (.if_icmp .ge i, nx, t, u, x)) (hc : c ≤ a) (H : am_x (am_cd d) k Q b t ls st h) : am_x (am_cd d) k Q b pc ls (.inl c :: .inl a :: st) h := x_icmp_ge hl (fun _ => H) (fun q => absurd q (Int.not_lt.mpr hc))
theorem x_icmp_ge_f {d k : Nat} {Q : am_Q} {b pc : Nat} {ls : am_L} {st : List am_V} {h : am_H} {nx t u : Nat} {x : Int} {i a c : Int} (hl : am_look k pc = some (.if_icmp .ge i, nx, t, u, x)) (hc : a < c) (H : am_x (am_cd d) k Q b nx ls st h) : am_x (am_cd d) k Q b pc ls (.inl c :: .inl a :: st) h := x_icmp_ge hl (fun q => absurd hc (Int.not_lt.mpr q)) (fun _ => H)
theorem x_if_gt {d k : Nat} {Q : am_Q} {b pc : Nat} {ls : am_L} {st : List am_V} {h : am_H} {nx t u : Nat} {x : Int} {i a : Int} (hl : am_look k pc = some (.ifCond .gt i, nx, t, u, x)) (HT : 0 < a → am_x (am_cd d) k Q b t ls st h) (HF : a ≤ 0 → am_x (am_cd d) k Q b nx ls st h) : am_x (am_cd d) k Q b pc ls (.inl a :: st) h := am_x_of_i (am_cd_det d) hl (show (if 0 < a then am_x (am_cd d) k Q b t ls st h else am_x (am_cd d) k Q b nx ls st h) from if q : 0 < a then (by rw [if_pos q]; exact HT q) else (by rw [if_neg q]; exact HF (Int.not_lt.mp q)))
theorem x_if_gt_t {d k : Nat} {Q : am_Q} {b pc : Nat} {ls : am_L} {st : List am_V} {h : am_H} {nx t u : Nat} {x : Int} {i a : Int} (hl : am_look k pc = some (.ifCond .gt i, nx, t, u, x)) (hc : 0 < a) (H : am_x (am_cd d) k Q b t ls st h) : am_x (am_cd d) k Q b pc ls (.inl a :: st) h := x_if_gt hl (fun _ => H) (fun q => absurd hc (Int.not_lt.mpr q))
theorem x_if_gt_f {d k : Nat} {Q : am_Q} {b pc : Nat} {ls : am_L} {st : List am_V} {h : am_H} {nx t u : Nat} {x : Int} {i a : Int} (hl : am_look k pc = some (.ifCond .gt i, nx, t, u, x)) (hc : a ≤ 0) (H : am_x (am_cd d) k Q b nx ls st h) : am_x (am_cd d) k Q b pc ls (.inl a :: st) h := x_if_gt hl (fun q => absurd q (Int.not_lt.mpr hc)) (fun _ => H)
theorem x_icmp_gt {d k : Nat} {Q : am_Q} {b pc : Nat} {ls : am_L} {st : List am_V} {h : am_H} {nx t u : Nat} {x : Int} {i a c : Int} (hl : am_look k pc = some (.if_icmp .gt i, nx, t, u, x)) (HT : c < a → am_x (am_cd d) k Q b t ls st h) (HF : a ≤ c → am_x (am_cd d) k Q b nx ls st h) : am_x (am_cd d) k Q b pc ls (.inl c :: .inl a :: st) h := am_x_of_i (am_cd_det d) hl (show (if c < a then am_x (am_cd d) k Q b t ls st h else am_x (am_cd d) k Q b nx ls st h) from if q : c < a then (by rw [if_pos q]; exact HT q) else (by rw [if_neg q]; exact HF (Int.not_lt.mp q)))
theorem x_icmp_gt_t {d k : Nat} {Q : am_Q} {b pc : Nat} {ls : am_L} {st : List am_V} {h : am_H} {nx t u : Nat} {x : Int} {i a c : Int} (hl : am_look k pc = some (.if_icmp .gt i, nx, t, u, x)) (hc : c < a) (H : am_x (am_cd d) k Q b t ls st h) : am_x (am_cd d) k Q b pc ls (.inl c :: .inl a :: st) h := x_icmp_gt hl (fun _ => H) (fun q => absurd hc (Int.not_lt.mpr q))
theorem x_icmp_gt_f {d k : Nat} {Q : am_Q} {b pc : Nat} {ls : am_L} {st : List am_V} {h : am_H} {nx t u : Nat} {x : Int} {i a c : Int} (hl : am_look k pc = some (.if_icmp .gt i, nx, t, u, x)) (hc : a ≤ c) (H : am_x (am_cd d) k Q b nx ls st h) : am_x (am_cd d) k Q b pc ls (.inl c :: .inl a :: st) h := x_icmp_gt hl (fun q => absurd q (Int.not_lt.mpr hc)) (fun _ => H)
theorem x_if_le {d k : Nat} {Q : am_Q} {b pc : Nat} {ls : am_L} {st : List am_V} {h : am_H} {nx t u : Nat} {x : Int} {i a : Int} (hl : am_look k pc = some (.ifCond .le i, nx, t, u, x)) (HT : a ≤ 0 → am_x (am_cd d) k Q b t ls st h) (HF : 0 < a → am_x (am_cd d) k Q b nx ls st h) : am_x (am_cd d) k Q b pc ls (.inl a :: st) h := am_x_of_i (am_cd_det d) hl (show (if 0 < a then am_x (am_cd d) k Q b nx ls st h else am_x (am_cd d) k Q b t ls st h) from if q : 0 < a then (by rw [if_pos q]; exact HF q) else (by rw [if_neg q]; exact HT (Int.not_lt.mp q)))
theorem x_if_le_t {d k : Nat} {Q : am_Q} {b pc : Nat} {ls : am_L} {st : List am_V} {h : am_H} {nx t u : Nat} {x : Int} {i a : Int} (hl : am_look k pc = some (.ifCond .le i, nx, t, u, x)) (hc : a ≤ 0) (H : am_x (am_cd d) k Q b t ls st h) : am_x (am_cd d) k Q b pc ls (.inl a :: st) h := x_if_le hl (fun _ => H) (fun q => absurd q (Int.not_lt.mpr hc))
theorem x_if_le_f {d k : Nat} {Q : am_Q} {b pc : Nat} {ls : am_L} {st : List am_V} {h : am_H} {nx t u : Nat} {x : Int} {i a : Int} (hl : am_look k pc = some (.ifCond .le i, nx, t, u, x)) (hc : 0 < a) (H : am_x (am_cd d) k Q b nx ls st h) : am_x (am_cd d) k Q b pc ls (.inl a :: st) h := x_if_le hl (fun q => absurd hc (Int.not_lt.mpr q)) (fun _ => H)
theorem x_icmp_le {d k : Nat} {Q : am_Q} {b pc : Nat} {ls : am_L} {st : List am_V} {h : am_H} {nx t u : Nat} {x : Int} {i a c : Int} (hl : am_look k pc = some (.if_icmp .le i, nx, t, u, x)) (HT : a ≤ c → am_x (am_cd d) k Q b t ls st h) (HF : c < a → am_x (am_cd d) k Q b nx ls st h) : am_x (am_cd d) k Q b pc ls (.inl c :: .inl a :: st) h := am_x_of_i (am_cd_det d) hl (show (if c < a then am_x (am_cd d) k Q b nx ls st h else am_x (am_cd d) k Q b t ls st h) from if q : c < a then (by rw [if_pos q]; exact HF q) else (by rw [if_neg q]; exact HT (Int.not_lt.mp q)))
theorem x_icmp_le_t {d k : Nat} {Q : am_Q} {b pc : Nat} {ls : am_L} {st : List am_V} {h : am_H} {nx t u : Nat} {x : Int} {i a c : Int} (hl : am_look k pc = some (.if_icmp .le i, nx, t, u, x)) (hc : a ≤ c) (H : am_x (am_cd d) k Q b t ls st h) : am_x (am_cd d) k Q b pc ls (.inl c :: .inl a :: st) h := x_icmp_le hl (fun _ => H) (fun q => absurd q (Int.not_lt.mpr hc))
theorem x_icmp_le_f {d k : Nat} {Q : am_Q} {b pc : Nat} {ls : am_L} {st : List am_V} {h : am_H} {nx t u : Nat} {x : Int} {i a c : Int} (hl : am_look k pc = some (.if_icmp .le i, nx, t, u, x)) (hc : c < a) (H : am_x (am_cd d) k Q b nx ls st h) : am_x (am_cd d) k Q b pc ls (.inl c :: .inl a :: st) h := x_icmp_le hl (fun q => absurd hc (Int.not_lt.mpr q)) (fun _ => H)
theorem x_tsw {d k : Nat} {Q : am_Q} {b pc : Nat} {ls : am_L} {st : List am_V} {h : am_H} {nx t u : Nat} {x : Int} {i lo hi : Int} {os : Array Int} {a : Int} {tg : Nat} {ts : List Nat} (hl : am_look k pc = some (.tableswitch i lo hi os, nx, t, u, x)) (hd : am_tg pc i = tg) (ht : os.toList.map (am_tg pc) = ts) (H : am_sw (fun t => am_x (am_cd d) k Q b t ls st h) a tg lo ts) : am_x (am_cd d) k Q b pc ls (.inl a :: st) h := am_x_of_i (am_cd_det d) hl (by show am_sw (fun t => am_x (am_cd d) k Q b t ls st h) a (am_tg pc i) lo (os.toList.map (am_tg pc)); rw [hd, ht]; exact H)
theorem x_lsw {d k : Nat} {Q : am_Q} {b pc : Nat} {ls : am_L} {st : List am_V} {h : am_H} {nx t u : Nat} {x : Int} {i : Int} {ps : Array (Int × Int)} {a : Int} {tg : Nat} {ts : List (Int × Nat)} (hl : am_look k pc = some (.lookupswitch i ps, nx, t, u, x)) (hd : am_tg pc i = tg) (ht : ps.toList.map (fun q => (q.1, am_tg pc q.2)) = ts) (H : am_lw (fun t => am_x (am_cd d) k Q b t ls st h) a tg ts) : am_x (am_cd d) k Q b pc ls (.inl a :: st) h := am_x_of_i (am_cd_det d) hl (by show am_lw (fun t => am_x (am_cd d) k Q b t ls st h) a (am_tg pc i) (ps.toList.map (fun q => (q.1, am_tg pc q.2))); rw [hd, ht]; exact H)
theorem sw_cons {K : Nat → Prop} {a : Int} {d t : Nat} {lo : Int} {ts : List Nat} (h1 : a = lo → K t) (h2 : a ≠ lo → am_sw K a d (lo + 1) ts) : am_sw K a d lo (t :: ts) := if q : a = lo then (by unfold am_sw; rw [if_pos q]; exact h1 q) else (by unfold am_sw; rw [if_neg q]; exact h2 q)
theorem sw_nil {K : Nat → Prop} {a : Int} {d : Nat} {lo : Int} (h1 : K d) : am_sw K a d lo [] := h1
theorem lw_cons {K : Nat → Prop} {a v : Int} {d t : Nat} {ts : List (Int × Nat)} (h1 : a = v → K t) (h2 : a ≠ v → am_lw K a d ts) : am_lw K a d ((v, t) :: ts) := if q : a = v then (by unfold am_lw; rw [if_pos q]; exact h1 q) else (by unfold am_lw; rw [if_neg q]; exact h2 q)
theorem lw_nil {K : Nat → Prop} {a : Int} {d : Nat} (h1 : K d) : am_lw K a d [] := h1
theorem x_getf {d k : Nat} {Q : am_Q} {b pc : Nat} {ls : am_L} {st : List am_V} {h : am_H} {nx t u : Nat} {x : Int} {i a : Nat} {v : Int} (hl : am_look k pc = some (.getfield i, nx, t, u, x)) (hf : am_fd a t = some none) (hv : h a x = v) (H : am_x (am_cd d) k Q b nx ls (.inl v :: st) h) : am_x (am_cd d) k Q b pc ls (.inr (.inr a) :: st) h := am_x_of_i (am_cd_det d) hl (by show (match am_fd a t with | some none => am_x (am_cd d) k Q b nx ls (.inl (h a x) :: st) h | some (some r) => am_x (am_cd d) k Q b nx ls (.inr (.inr r) :: st) h | none => False); rw [hf, hv]; exact H)
theorem x_getr {d k : Nat} {Q : am_Q} {b pc : Nat} {ls : am_L} {st : List am_V} {h : am_H} {nx t u : Nat} {x : Int} {i a r : Nat} (hl : am_look k pc = some (.getfield i, nx, t, u, x)) (hf : am_fd a t = some (some r)) (H : am_x (am_cd d) k Q b nx ls (.inr (.inr r) :: st) h) : am_x (am_cd d) k Q b pc ls (.inr (.inr a) :: st) h := am_x_of_i (am_cd_det d) hl (by show (match am_fd a t with | some none => am_x (am_cd d) k Q b nx ls (.inl (h a x) :: st) h | some (some r) => am_x (am_cd d) k Q b nx ls (.inr (.inr r) :: st) h | none => False); rw [hf]; exact H)
theorem x_putf {d k : Nat} {Q : am_Q} {b pc : Nat} {ls : am_L} {st : List am_V} {h : am_H} {nx t u : Nat} {x : Int} {i a : Nat} {v : Int} (hl : am_look k pc = some (.putfield i, nx, t, u, x)) (hf : am_fd a t = some none) (H : am_x (am_cd d) k Q b nx ls st (am_up h a x v)) : am_x (am_cd d) k Q b pc ls (.inl v :: .inr (.inr a) :: st) h := am_x_of_i (am_cd_det d) hl ⟨hf, H⟩
theorem x_gets {d k : Nat} {Q : am_Q} {b pc : Nat} {ls : am_L} {st : List am_V} {h : am_H} {nx t u : Nat} {x : Int} {i : Nat} (hl : am_look k pc = some (.getstatic i, nx, t, u, x)) (H : am_x (am_cd d) k Q b nx ls (.inr (.inr t) :: st) h) : am_x (am_cd d) k Q b pc ls st h := am_x_of_i (am_cd_det d) hl H
theorem x_iaload {d k : Nat} {Q : am_Q} {b pc : Nat} {ls : am_L} {st : List am_V} {h : am_H} {nx t u : Nat} {x : Int} {a n : Nat} {i z v : Int} (hl : am_look k pc = some (.iaload, nx, t, u, x)) (ha : am_al h a = some n) (hz : (n : Int) = z) (hv : am_ag h a i = v) (hb : 0 ≤ i ∧ i < z) (H : am_x (am_cd d) k Q b nx ls (.inl v :: st) h) : am_x (am_cd d) k Q b pc ls (.inl i :: .inr (.inr a) :: st) h := am_x_of_i (am_cd_det d) hl (by show (match am_al h a with | some n => (0 ≤ i ∧ i < (n : Int)) ∧ am_x (am_cd d) k Q b nx ls (.inl (am_ag h a i) :: st) h | none => False); rw [ha, hv]; exact ⟨hz ▸ hb, H⟩)
theorem x_iastore {d k : Nat} {Q : am_Q} {b pc : Nat} {ls : am_L} {st : List am_V} {h : am_H} {nx t u : Nat} {x : Int} {a n : Nat} {i j z v : Int} (hl : am_look k pc = some (.iastore, nx, t, u, x)) (ha : am_al h a = some n) (hz : (n : Int) = z) (hm : a < 1000) (hb : 0 ≤ i ∧ i < z) (hj : i = j) (H : am_x (am_cd d) k Q b nx ls st (am_up h a j v)) : am_x (am_cd d) k Q b pc ls (.inl v :: .inl i :: .inr (.inr a) :: st) h := am_x_of_i (am_cd_det d) hl (by show (match am_al h a with | some n => a < 1000 ∧ (0 ≤ i ∧ i < (n : Int)) ∧ am_x (am_cd d) k Q b nx ls st (am_up h a i v) | none => False); subst hj; rw [ha]; exact ⟨hm, hz ▸ hb, H⟩)
theorem x_alen {d k : Nat} {Q : am_Q} {b pc : Nat} {ls : am_L} {st : List am_V} {h : am_H} {nx t u : Nat} {x : Int} {a n : Nat} {z : Int} (hl : am_look k pc = some (.arraylength, nx, t, u, x)) (ha : am_al h a = some n) (hz : (n : Int) = z) (H : am_x (am_cd d) k Q b nx ls (.inl z :: st) h) : am_x (am_cd d) k Q b pc ls (.inr (.inr a) :: st) h := am_x_of_i (am_cd_det d) hl (by show (match am_al h a with | some n => am_x (am_cd d) k Q b nx ls (.inl (n : Int) :: st) h | none => False); subst hz; rw [ha]; exact H)
theorem x_newa {d k : Nat} {Q : am_Q} {b pc : Nat} {ls : am_L} {st : List am_V} {h : am_H} {nx t u : Nat} {x : Int} {i : ArrayType} (hl : am_look k pc = some (.newarray i, nx, t, u, x)) (hc : h 1000 0 < 800) (H : am_x (am_cd d) k Q b nx ls (.inr (.inr (am_n h)) :: st) (am_nw h)) : am_x (am_cd d) k Q (b + 1) pc ls (.inl 4 :: st) h := am_x_of_i (am_cd_det d) hl ⟨rfl, hc, H⟩
theorem x_cpy {d k : Nat} {Q : am_Q} {b pc : Nat} {ls : am_L} {st : List am_V} {h : am_H} {nx t u : Nat} {x : Int} {i a b1 na nb : Nat} {n dp sp za zb : Int} (hl : am_look k pc = some (.invokestatic i, nx, t, u, x)) (h9 : t = 9999) (ha : am_al h a = some na) (hza : (na : Int) = za) (hb : am_al h b1 = some nb) (hzb : (nb : Int) = zb) (hm : a < 1000 ∧ b1 < 1000) (hs : am_wd st ≤ 8) (hr : 0 ≤ sp ∧ 0 ≤ dp ∧ 0 ≤ n ∧ sp + n ≤ za ∧ dp + n ≤ zb) (H : am_x (am_cd d) k Q b nx ls st (am_cp h a sp b1 dp n)) : am_x (am_cd d) k Q b pc ls (.inl n :: .inl dp :: .inr (.inr b1) :: .inl sp :: .inr (.inr a) :: st) h := am_x_of_i (am_cd_det d) hl (by subst h9 hza hzb; unfold am_i; dsimp only; rw [if_pos rfl, ha, hb]; exact ⟨hm, hs, hr, H⟩)
theorem x_cvi {d k : Nat} {Q : am_Q} {b pc : Nat} {ls : am_L} {st : List am_V} {h : am_H} {nx t u : Nat} {x : Int} {i a0 : Nat} {args st1 : List am_V} (hl : am_look k pc = some (.invokevirtual i, nx, t, u, x)) (hp : am_pop u st [] = some (.inr (.inr a0) :: args, st1)) (ho : am_oc a0 = x) (ht : (t == am_BD) = false) (hs : am_wd st1 ≤ 8) (H : ∃ a h1, am_cd d t (.inr (.inr a0) :: args) h (some (.inl a)) h1 ∧ am_x (am_cd d) k Q b nx ls (.inl a :: st1) h1) : am_x (am_cd d) k Q b pc ls st h := by
  obtain ⟨a, h1, q1, q2⟩ := H
  refine am_x_of_i (am_cd_det d) hl ?_
  show (match am_pop u st [] with | some (.inr (.inr a) :: args, st) => am_oc a = x ∧ am_call (am_cd d) (am_x (am_cd d) k Q) b nx t ls h (.inr (.inr a) :: args) st | _ => False)
  rw [hp]
  refine ⟨ho, ?_⟩
  rw [am_call_eq ht hs]
  exact ⟨some (.inl a), h1, q1, q2⟩
theorem x_csi {d k : Nat} {Q : am_Q} {b pc : Nat} {ls : am_L} {st : List am_V} {h : am_H} {nx t u : Nat} {x : Int} {i : Nat} {args st1 : List am_V} (hl : am_look k pc = some (.invokestatic i, nx, t, u, x)) (h9 : (t == 9999) = false) (hp : am_pop u st [] = some (args, st1)) (ht : (t == am_BD) = false) (hs : am_wd st1 ≤ 8) (H : ∃ a h1, am_cd d t args h (some (.inl a)) h1 ∧ am_x (am_cd d) k Q b nx ls (.inl a :: st1) h1) : am_x (am_cd d) k Q b pc ls st h := by
  obtain ⟨a, h1, q1, q2⟩ := H
  have h9 : ¬ t = 9999 := by simpa using h9
  refine am_x_of_i (am_cd_det d) hl ?_
  unfold am_i
  dsimp only
  rw [if_neg h9, hp]
  dsimp only
  rw [am_call_eq ht hs]
  exact ⟨some (.inl a), h1, q1, q2⟩
theorem x_cvv {d k : Nat} {Q : am_Q} {b pc : Nat} {ls : am_L} {st : List am_V} {h : am_H} {nx t u : Nat} {x : Int} {i a0 : Nat} {args st1 : List am_V} (hl : am_look k pc = some (.invokevirtual i, nx, t, u, x)) (hp : am_pop u st [] = some (.inr (.inr a0) :: args, st1)) (ho : am_oc a0 = x) (ht : (t == am_BD) = false) (hs : am_wd st1 ≤ 8) (H : ∃ h1, am_cd d t (.inr (.inr a0) :: args) h none h1 ∧ am_x (am_cd d) k Q b nx ls st1 h1) : am_x (am_cd d) k Q b pc ls st h := by
  obtain ⟨h1, q1, q2⟩ := H
  refine am_x_of_i (am_cd_det d) hl ?_
  show (match am_pop u st [] with | some (.inr (.inr a) :: args, st) => am_oc a = x ∧ am_call (am_cd d) (am_x (am_cd d) k Q) b nx t ls h (.inr (.inr a) :: args) st | _ => False)
  rw [hp]
  refine ⟨ho, ?_⟩
  rw [am_call_eq ht hs]
  exact ⟨none, h1, q1, q2⟩
theorem x_csv {d k : Nat} {Q : am_Q} {b pc : Nat} {ls : am_L} {st : List am_V} {h : am_H} {nx t u : Nat} {x : Int} {i : Nat} {args st1 : List am_V} (hl : am_look k pc = some (.invokestatic i, nx, t, u, x)) (h9 : (t == 9999) = false) (hp : am_pop u st [] = some (args, st1)) (ht : (t == am_BD) = false) (hs : am_wd st1 ≤ 8) (H : ∃ h1, am_cd d t args h none h1 ∧ am_x (am_cd d) k Q b nx ls st1 h1) : am_x (am_cd d) k Q b pc ls st h := by
  obtain ⟨h1, q1, q2⟩ := H
  have h9 : ¬ t = 9999 := by simpa using h9
  refine am_x_of_i (am_cd_det d) hl ?_
  unfold am_i
  dsimp only
  rw [if_neg h9, hp]
  dsimp only
  rw [am_call_eq ht hs]
  exact ⟨none, h1, q1, q2⟩
theorem x_cvb {d k : Nat} {Q : am_Q} {b pc : Nat} {ls : am_L} {st : List am_V} {h : am_H} {nx t u : Nat} {x : Int} {i a0 : Nat} {args st1 : List am_V} (hl : am_look k pc = some (.invokevirtual i, nx, t, u, x)) (hp : am_pop u st [] = some (.inr (.inr a0) :: args, st1)) (ho : am_oc a0 = x) (ht : t = am_BD) (hs : am_wd st1 ≤ 8) (H : ∃ a h1, am_cd d t (.inr (.inr a0) :: args) h (some (.inl a)) h1 ∧ am_x (am_cd d) k Q b nx ls (.inl a :: st1) h1) : am_x (am_cd d) k Q (b + 1) pc ls st h := by
  obtain ⟨a, h1, q1, q2⟩ := H
  refine am_x_of_i (am_cd_det d) hl ?_
  show (match am_pop u st [] with | some (.inr (.inr a) :: args, st) => am_oc a = x ∧ am_call (am_cd d) (am_x (am_cd d) k Q) (b + 1) nx t ls h (.inr (.inr a) :: args) st | _ => False)
  rw [hp]
  refine ⟨ho, ?_⟩
  unfold am_call
  refine ⟨hs, ?_⟩
  rw [if_pos ht]
  exact ⟨some (.inl a), h1, q1, q2⟩
def am_qi (P : Int → am_H → Prop) : am_Q := fun r h => ∃ a, r = some (.inl a) ∧ P a h
def am_qv (P : am_H → Prop) : am_Q := fun r h => r = none ∧ P h
theorem x_ireti {d k : Nat} {P : Int → am_H → Prop} {b pc : Nat} {ls : am_L} {h : am_H} {nx t u : Nat} {x a : Int} (hl : am_look k pc = some (.ireturn, nx, t, u, x)) (hz : am_zb k = false) (H : P a h) : am_x (am_cd d) k (am_qi P) b pc ls [.inl a] h := am_x_of_i (am_cd_det d) hl ⟨(fun q => by rw [hz] at q; cases q), a, rfl, H⟩
theorem x_iretz {d k : Nat} {P : Int → am_H → Prop} {b pc : Nat} {ls : am_L} {h : am_H} {nx t u : Nat} {x a : Int} (hl : am_look k pc = some (.ireturn, nx, t, u, x)) (hz : a = 0 ∨ a = 1) (H : P a h) : am_x (am_cd d) k (am_qi P) b pc ls [.inl a] h := am_x_of_i (am_cd_det d) hl ⟨fun _ => hz, a, rfl, H⟩
theorem x_ret {d k : Nat} {P : am_H → Prop} {b pc : Nat} {ls : am_L} {h : am_H} {nx t u : Nat} {x : Int} (hl : am_look k pc = some (.return_, nx, t, u, x)) (H : P h) : am_x (am_cd d) k (am_qv P) b pc ls [] h := am_x_of_i (am_cd_det d) hl ⟨rfl, H⟩
/-! a call's answer out of a walk -/
theorem am_w_out {C : Nat → List am_V → am_H → Option am_V → am_H → Prop} (hC : am_det C) {k : Nat} {Q : am_Q} : ∀ (n b pc : Nat) (ls : am_L) (st : List am_V) (h : am_H), am_w C k Q n b pc ls st h → ∃ r h', Q r h' ∧ am_w C k (fun r1 h1 => r1 = r ∧ h1 = h') n b pc ls st h
  | 0, _, _, _, _, _, H => by rw [am_w] at H; exact H.elim
  | n + 1, b, pc, ls, st, h, H => by
    obtain ⟨i, nx, t, u, x, hl, hi⟩ := am_w_look H
    rcases am_i_one hC hi with ⟨b1, pc1, ls1, st1, h1, k1, k2⟩ | ⟨r, h1, k1, k2⟩
    · obtain ⟨r, h', q1, q2⟩ := am_w_out hC n b1 pc1 ls1 st1 h1 k1
      exact ⟨r, h', q1, by rw [am_w_succ hl]; exact (k2 _ _).mpr q2⟩
    · exact ⟨r, h1, k1, by rw [am_w_succ hl]; exact (k2 _ _).mpr ⟨rfl, rfl⟩⟩
theorem am_out {d D j ml : Nat} {Q : am_Q} {vs : List am_V} {h : am_H} {ls : am_L} (hd : d + 1 = D) (hb : am_ab j = 0) (hm : am_ml j = ml) (hn : (am_en vs).length ≤ ml) (ha : vs.length = am_np j + (if am_sc j then 0 else 1)) (he : am_ent ml vs = ls) (H : am_x (am_cd d) j Q 0 0 ls [] h) : ∃ r h', am_cd D j vs h r h' ∧ Q r h' := by
  subst hd he hm
  obtain ⟨n, H⟩ := H
  obtain ⟨r, h', q1, q2⟩ := am_w_out (am_cd_det d) n _ _ _ _ _ H
  exact ⟨r, h', ⟨⟨hn, ha⟩, n, by rw [hb]; exact q2⟩, q1⟩
theorem am_outi {d D j ml : Nat} {P : Int → am_H → Prop} {vs : List am_V} {h : am_H} {ls : am_L} (hd : d + 1 = D) (hb : am_ab j = 0) (hm : am_ml j = ml) (hn : (am_en vs).length ≤ ml) (ha : vs.length = am_np j + (if am_sc j then 0 else 1)) (he : am_ent ml vs = ls) (H : am_x (am_cd d) j (am_qi P) 0 0 ls [] h) : ∃ a h', am_cd D j vs h (some (.inl a)) h' ∧ P a h' := by
  obtain ⟨r, h', q1, a, rfl, q2⟩ := am_out hd hb hm hn ha he H
  exact ⟨a, h', q1, q2⟩
theorem am_outv {d D j ml : Nat} {P : am_H → Prop} {vs : List am_V} {h : am_H} {ls : am_L} (hd : d + 1 = D) (hb : am_ab j = 0) (hm : am_ml j = ml) (hn : (am_en vs).length ≤ ml) (ha : vs.length = am_np j + (if am_sc j then 0 else 1)) (he : am_ent ml vs = ls) (H : am_x (am_cd d) j (am_qv P) 0 0 ls [] h) : ∃ h', am_cd D j vs h none h' ∧ P h' := by
  obtain ⟨r, h', q1, rfl, q2⟩ := am_out hd hb hm hn ha he H
  exact ⟨h', q1, q2⟩
theorem am_outb {d D j ml : Nat} {P : Int → am_H → Prop} {vs : List am_V} {h : am_H} {ls : am_L} (hd : d + 1 = D) (hb : am_ab j = 1) (hm : am_ml j = ml) (hn : (am_en vs).length ≤ ml) (ha : vs.length = am_np j + (if am_sc j then 0 else 1)) (he : am_ent ml vs = ls) (H : am_x (am_cd d) j (am_qi P) 1 0 ls [] h) : ∃ a h', am_cd D j vs h (some (.inl a)) h' ∧ P a h' := by
  subst hd he hm
  obtain ⟨n, H⟩ := H
  obtain ⟨r, h', ⟨a, rfl, q1⟩, q2⟩ := am_w_out (am_cd_det d) n _ _ _ _ _ H
  exact ⟨a, h', ⟨⟨hn, ha⟩, n, by rw [hb]; exact q2⟩, q1⟩
theorem am_lifti {d D t : Nat} {args : List am_V} {h : am_H} {P : Int → am_H → Prop} (hd : D ≤ d) (H : ∃ a h1, am_cd D t args h (some (.inl a)) h1 ∧ P a h1) : ∃ a h1, am_cd d t args h (some (.inl a)) h1 ∧ P a h1 := by
  obtain ⟨a, h1, q1, q2⟩ := H
  exact ⟨a, h1, am_cd_le hd q1, q2⟩
theorem am_liftv {d D t : Nat} {args : List am_V} {h : am_H} {P : am_H → Prop} (hd : D ≤ d) (H : ∃ h1, am_cd D t args h none h1 ∧ P h1) : ∃ h1, am_cd d t args h none h1 ∧ P h1 := by
  obtain ⟨h1, q1, q2⟩ := H
  exact ⟨h1, am_cd_le hd q1, q2⟩
/-! locals that are no longer read -/
def am_lle (ls ls' : am_L) : Prop := ls.length = ls'.length ∧ ∀ i, am_g ls i = am_g ls' i ∨ (am_g ls i = none ∧ am_nl (am_g ls' i))
theorem am_p_len : ∀ (ls : am_L) (t : Nat) (v : am_V), (am_p ls t v).length = ls.length
  | [], _, _ => rfl
  | _ :: _, 0, _ => rfl
  | _ :: l, t + 1, v => by simp [am_p, am_p_len l t v]
theorem am_p_get : ∀ (ls : am_L) (t : Nat) (v : am_V) (i : Nat), t < ls.length → am_g (am_p ls t v) i = if i = t then some v else am_g ls i
  | [], _, _, _, h => by simp at h
  | _ :: _, 0, _, 0, _ => rfl
  | _ :: _, 0, _, i + 1, _ => by simp [am_p, am_g]
  | _ :: _, t + 1, _, 0, _ => by simp [am_p, am_g]
  | _ :: l, t + 1, v, i + 1, h => by
    have := am_p_get l t v i (by simpa using h)
    simp only [am_p, am_g, this]
    by_cases q : i = t <;> simp [q]
theorem lle_p {ls ls' : am_L} (H : am_lle ls ls') {t : Nat} (ht : t < ls.length) (v : am_V) : am_lle (am_p ls t v) (am_p ls' t v) := by
  refine ⟨by rw [am_p_len, am_p_len]; exact H.1, fun i => ?_⟩
  rw [am_p_get _ _ _ _ ht, am_p_get _ _ _ _ (H.1 ▸ ht)]
  by_cases q : i = t
  · left; simp [q]
  · simp only [q, if_false]; exact H.2 i
theorem lle_s {ls ls' : am_L} (H : am_lle ls ls') {t : Nat} (hs : am_s1 ls t) : am_s1 ls' t := by
  refine ⟨H.1 ▸ hs.1, ?_⟩
  rcases H.2 (t - 1) with q | q
  · rw [← q]; exact hs.2
  · exact q.2
theorem lle_g {ls ls' : am_L} (H : am_lle ls ls') {t : Nat} {v : am_V} (hg : am_g ls t = some v) : am_g ls' t = some v := by
  rcases H.2 t with q | q
  · rw [← q]; exact hg
  · rw [hg] at q; cases q.1
set_option maxHeartbeats 4000000 in
theorem am_i_weak {C : Nat → List am_V → am_H → Option am_V → am_H → Prop} {K K' : Nat → Nat → am_L → List am_V → am_H → Prop} {Q : am_Q} {z : Bool} {b pc : Nat} {ls ls' : am_L} {st : List am_V} {h : am_H} {nx t u : Nat} {x : Int} {i : Instr} (hC : am_det C) (hL : am_lle ls ls') (hK : ∀ b pc ls ls' st h, am_lle ls ls' → K b pc ls st h → K' b pc ls' st h) (H : am_i C K Q z b pc ls st h nx t u x i) : am_i C K' Q z b pc ls' st h nx t u x i := by
  have key : ∀ {b nx t : Nat} {h : am_H} {args st : List am_V}, am_call C K b nx t ls h args st → am_call C K' b nx t ls' h args st := by
    intro b nx t h args st H
    unfold am_call at H ⊢
    refine ⟨H.1, ?_⟩
    obtain ⟨-, H⟩ := H
    by_cases hc : t = am_BD
    · rw [if_pos hc] at H ⊢
      cases b with
      | zero => exact H
      | succ b' =>
        obtain ⟨r, h1, q1, q2⟩ := H
        exact ⟨r, h1, q1, hK _ _ _ _ _ _ hL q2⟩
    · rw [if_neg hc] at H ⊢
      obtain ⟨r, h1, q1, q2⟩ := H
      exact ⟨r, h1, q1, hK _ _ _ _ _ _ hL q2⟩
  have ksw : ∀ {b : Nat} {st : List am_V} {h : am_H} {a : Int} {d : Nat} (ts : List Nat) (lo : Int), am_sw (fun t => K b t ls st h) a d lo ts → am_sw (fun t => K' b t ls' st h) a d lo ts := by
    intro b st h a d ts
    induction ts with
    | nil => intro lo H; exact hK _ _ _ _ _ _ hL H
    | cons t ts ih =>
      intro lo H
      unfold am_sw at H ⊢
      by_cases q : a = lo
      · rw [if_pos q] at H ⊢; exact hK _ _ _ _ _ _ hL H
      · rw [if_neg q] at H ⊢; exact ih _ H
  have klw : ∀ {b : Nat} {st : List am_V} {h : am_H} {a : Int} {d : Nat} (ts : List (Int × Nat)), am_lw (fun t => K b t ls st h) a d ts → am_lw (fun t => K' b t ls' st h) a d ts := by
    intro b st h a d ts
    induction ts with
    | nil => intro H; exact hK _ _ _ _ _ _ hL H
    | cons t ts ih =>
      intro H
      obtain ⟨v, t⟩ := t
      unfold am_lw at H ⊢
      by_cases q : a = v
      · rw [if_pos q] at H ⊢; exact hK _ _ _ _ _ _ hL H
      · rw [if_neg q] at H ⊢; exact ih H
  have kif : ∀ {c : Jvm.ClassFile.Cond} {p y : Int} {b t nx : Nat} {st : List am_V} {h : am_H}, am_if c p y (K b t ls st h) (K b nx ls st h) → am_if c p y (K' b t ls' st h) (K' b nx ls' st h) := by
    intro c p y b t nx st h H
    cases c <;> (unfold am_if at H ⊢; dsimp only at H ⊢; split <;> rename_i q <;> simp only [q, if_true, if_false] at H <;> exact hK _ _ _ _ _ _ hL H)
  have klo : ∀ {v : am_V}, am_g ls t = some v → am_g ls' t = some v := fun q => lle_g hL q
  cases i <;> first
    | exact False.elim H
    | exact hK _ _ _ _ _ _ hL H
    | exact H
    | skip
  all_goals unfold am_i at H ⊢
  all_goals dsimp only at H ⊢
  all_goals try (revert H; split <;> intro H)
  all_goals try exact False.elim H
  all_goals try exact H
  all_goals try exact hK _ _ _ _ _ _ hL H
  all_goals try exact ⟨H.1, hK _ _ _ _ _ _ hL H.2⟩
  all_goals try exact ⟨lle_s hL H.1, hK _ _ _ _ _ _ (lle_p hL H.1.1 _) H.2⟩
  all_goals try exact kif H
  all_goals try exact ksw _ _ H
  all_goals try exact klw _ H
  all_goals try exact ⟨H.1, key H.2⟩
  all_goals try (rename_i q; rw [klo q]; exact hK _ _ _ _ _ _ hL H)
  all_goals try (rename_i q; rw [klo q]; exact ⟨H.1, lle_s hL H.2.1, hK _ _ _ _ _ _ (lle_p hL H.2.1.1 _) H.2.2⟩)
  all_goals try (revert H; split <;> intro H)
  all_goals try exact False.elim H
  all_goals try exact hK _ _ _ _ _ _ hL H
  all_goals try exact ⟨H.1, hK _ _ _ _ _ _ hL H.2⟩
  all_goals try exact ⟨H.1, H.2.1, hK _ _ _ _ _ _ hL H.2.2⟩
  all_goals try exact key H
  all_goals try (revert H; split <;> intro H)
  all_goals try exact False.elim H
  all_goals try exact H.2.2.elim
  all_goals try exact ⟨H.1, H.2.1, hK _ _ _ _ _ _ hL H.2.2⟩
  all_goals try exact ⟨H.1, H.2.1, H.2.2.1, hK _ _ _ _ _ _ hL H.2.2.2⟩
theorem am_x_weak {d k : Nat} {Q : am_Q} {b pc : Nat} {ls ls' : am_L} {st : List am_V} {h : am_H} (hL : am_lle ls ls') (H : am_x (am_cd d) k Q b pc ls st h) : am_x (am_cd d) k Q b pc ls' st h := by
  obtain ⟨n, H⟩ := H
  refine ⟨n, ?_⟩
  induction n generalizing b pc ls ls' st h with
  | zero => rw [am_w] at H; exact H.elim
  | succ n ih =>
    obtain ⟨i, nx, t, u, x, hl, hi⟩ := am_w_look H
    rw [am_w_succ hl]
    exact am_i_weak (am_cd_det d) hL (fun b pc ls ls' st h q1 q2 => ih q1 q2) hi
theorem lle_nil : am_lle [] [] := ⟨rfl, fun _ => Or.inl rfl⟩
theorem lle_c {o : Option am_V} {ls ls' : am_L} (H : am_lle ls ls') : am_lle (o :: ls) (o :: ls') := by
  refine ⟨by simp [H.1], fun i => ?_⟩
  cases i with
  | zero => exact Or.inl rfl
  | succ i => exact H.2 i
theorem lle_d {o : Option am_V} {ls ls' : am_L} (ho : am_nl o) (H : am_lle ls ls') : am_lle (none :: ls) (o :: ls') := by
  refine ⟨by simp [H.1], fun i => ?_⟩
  cases i with
  | zero => exact Or.inr ⟨rfl, ho⟩
  | succ i => exact H.2 i
/-! the heap behind a write -/
theorem up_c {h : am_H} {p q : Nat} {i j v w : Int} (hq : Nat.beq q p = false) (H : h q j = w) : am_up h p i v q j = w := by
  have : ¬ q = p := fun e => by subst e; simp at hq
  unfold am_up
  rw [if_neg (fun e => this e.1)]
  exact H
theorem up_i {h : am_H} {p : Nat} {i j v w : Int} (hq : j ≠ i) (H : h p j = w) : am_up h p i v p j = w := by
  unfold am_up
  rw [if_neg (fun e => hq e.2)]
  exact H
theorem up_s {h : am_H} {p : Nat} {i j v : Int} (hq : j = i) : am_up h p i v p j = v := by
  unfold am_up
  rw [if_pos ⟨rfl, hq⟩]
theorem up_q {h : am_H} {p : Nat} {i j v w : Int} (H : h p j = w) : am_up h p i v p j = if j = i then v else w := by
  subst H
  unfold am_up
  simp
theorem ag_l {h : am_H} {p : Nat} {j j1 v : Int} (hp : Nat.ble p 2000 = true) (hj : j = j1) (H : h p j1 = v) : am_ag h p j = v := by
  have := Nat.le_of_ble_eq_true hp
  subst hj
  unfold am_ag
  rw [if_neg (by omega)]
  exact H
theorem ag_s {h : am_H} {p : Nat} {j : Int} (hp : Nat.blt 2000 p = true) : am_ag h p j = am_ct p j := by
  have := Nat.le_of_ble_eq_true hp
  unfold am_ag
  rw [if_pos (by omega)]
/-! where an instruction stands -/
theorem lk_mem : ∀ (l : List (Nat × am_E)) (pc : Nat) (e : am_E), (l.map (·.1)).Pairwise (· < ·) → (pc, e) ∈ l → l.lookup pc = some e
  | [], _, _, _, h => by simp at h
  | (p, e') :: l, pc, e, hs, h => by
    simp only [List.map_cons, List.pairwise_cons] at hs
    rcases List.mem_cons.mp h with q | q
    · cases q; simp [List.lookup]
    · have h1 : p < pc := hs.1 pc (List.mem_map.mpr ⟨(pc, e), q, rfl⟩)
      have h2 : (pc == p) = false := by simp; omega
      simp only [List.lookup, h2]
      exact lk_mem l pc e hs.2 q
def am_inc : List (Nat × am_E) → Bool
  | [] => true
  | [_] => true
  | a :: b :: l => Nat.blt a.1 b.1 && am_inc (b :: l)
theorem am_inc_ok : ∀ (l : List (Nat × am_E)), am_inc l = true → (l.map (·.1)).Pairwise (· < ·)
  | [], _ => List.Pairwise.nil
  | [_], _ => by simp
  | a :: b :: l, h => by
    unfold am_inc at h
    rw [Bool.and_eq_true] at h
    have h1 : a.1 < b.1 := Nat.le_of_ble_eq_true h.1
    have h2 := am_inc_ok (b :: l) h.2
    simp only [List.map_cons, List.pairwise_cons] at h2 ⊢
    refine ⟨?_, h2⟩
    intro q hq
    rcases List.mem_cons.mp hq with rfl | hq
    · exact h1
    · have := h2.1 q hq; omega
theorem am_inc_all : am_tab.all am_inc = true := by decide +kernel
theorem lk_of {k : Nat} {l l' : List (Nat × am_E)} {i pc : Nat} {e : am_E} (ht : am_tab[k]? = some l) (hs : ∀ y, y ∈ l' → y ∈ l) (hi : l'[i]? = some (pc, e)) : am_look k pc = some e := by
  have h1 := List.all_eq_true.mp am_inc_all l (List.mem_of_getElem? ht)
  have h2 : am_tab.getD k [] = l := by rw [List.getD_eq_getElem?_getD, ht]; rfl
  unfold am_look
  rw [h2]
  exact lk_mem l pc e (am_inc_ok l h1) (hs _ (List.mem_of_getElem? hi))
