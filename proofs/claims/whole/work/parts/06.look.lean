theorem q0_0 : am_look 0 0 = some (.aload_n 0, 1, 0, 0, 0) := by decide +kernel
theorem q0_1 : am_look 0 1 = some (.getfield 36, 4, 1, 1, 0) := by decide +kernel
theorem q0_4 : am_look 0 4 = some (.ireturn, 5, 0, 0, 0) := by decide +kernel
theorem zb0 : am_zb 0 = false := by decide +kernel
theorem ml0 : am_ml 0 = 1 := by decide +kernel
theorem np0 : am_np 0 + (if am_sc 0 then 0 else 1) = 1 := by decide +kernel
theorem st0 {d : Nat} {h h1 : am_H} {r : Option am_V} (p0 : Nat) (H : am_x (am_cd d) 0 (fun r2 h2 => r2 = r ∧ h2 = h1) 0 0 [some (.inr (.inr p0))] [] h) : am_cd (d + 1) 0 [.inr (.inr p0)] h r h1 := by
  refine ⟨⟨by rw [ml0]; simp [am_en], by rw [np0]; rfl⟩, ?_⟩
  rw [ml0]; exact H
theorem q1_0 : am_look 1 0 = some (.iload_n 1, 1, 1, 0, 0) := by decide +kernel
theorem q1_1 : am_look 1 1 = some (.ifCond .lt 15, 4, 16, 0, 0) := by decide +kernel
theorem q1_4 : am_look 1 4 = some (.iload_n 1, 5, 1, 0, 0) := by decide +kernel
theorem q1_5 : am_look 1 5 = some (.aload_n 0, 6, 0, 0, 0) := by decide +kernel
theorem q1_6 : am_look 1 6 = some (.getfield 36, 9, 1, 1, 0) := by decide +kernel
theorem q1_9 : am_look 1 9 = some (.if_icmp .ge 7, 12, 16, 0, 0) := by decide +kernel
theorem q1_12 : am_look 1 12 = some (.iconst 1, 13, 0, 0, 1) := by decide +kernel
theorem q1_13 : am_look 1 13 = some (.goto 4, 16, 17, 0, 0) := by decide +kernel
theorem q1_16 : am_look 1 16 = some (.iconst 0, 17, 0, 0, 0) := by decide +kernel
theorem q1_17 : am_look 1 17 = some (.ireturn, 18, 0, 0, 0) := by decide +kernel
theorem zb1 : am_zb 1 = true := by decide +kernel
theorem ml1 : am_ml 1 = 2 := by decide +kernel
theorem np1 : am_np 1 + (if am_sc 1 then 0 else 1) = 2 := by decide +kernel
theorem st1 {d : Nat} {h h1 : am_H} {r : Option am_V} (p0 : Nat) (a1 : Int) (H : am_x (am_cd d) 1 (fun r2 h2 => r2 = r ∧ h2 = h1) 0 0 [some (.inr (.inr p0)), some (.inl a1)] [] h) : am_cd (d + 1) 1 [.inr (.inr p0), .inl a1] h r h1 := by
  refine ⟨⟨by rw [ml1]; simp [am_en], by rw [np1]; rfl⟩, ?_⟩
  rw [ml1]; exact H
theorem q2_0 : am_look 2 0 = some (.aload_n 0, 1, 0, 0, 0) := by decide +kernel
theorem q2_1 : am_look 2 1 = some (.getfield 11, 4, 2, 2, 0) := by decide +kernel
theorem q2_4 : am_look 2 4 = some (.aload_n 0, 5, 0, 0, 0) := by decide +kernel
theorem q2_5 : am_look 2 5 = some (.getfield 36, 8, 1, 1, 0) := by decide +kernel
theorem q2_8 : am_look 2 8 = some (.iload_n 1, 9, 1, 0, 0) := by decide +kernel
theorem q2_9 : am_look 2 9 = some (.iastore, 10, 0, 0, 0) := by decide +kernel
theorem q2_10 : am_look 2 10 = some (.aload_n 0, 11, 0, 0, 0) := by decide +kernel
theorem q2_11 : am_look 2 11 = some (.getfield 15, 14, 3, 3, 0) := by decide +kernel
theorem q2_14 : am_look 2 14 = some (.aload_n 0, 15, 0, 0, 0) := by decide +kernel
theorem q2_15 : am_look 2 15 = some (.getfield 36, 18, 1, 1, 0) := by decide +kernel
theorem q2_18 : am_look 2 18 = some (.iload_n 2, 19, 2, 0, 0) := by decide +kernel
theorem q2_19 : am_look 2 19 = some (.iastore, 20, 0, 0, 0) := by decide +kernel
theorem q2_20 : am_look 2 20 = some (.aload_n 0, 21, 0, 0, 0) := by decide +kernel
theorem q2_21 : am_look 2 21 = some (.getfield 18, 24, 4, 4, 0) := by decide +kernel
theorem q2_24 : am_look 2 24 = some (.aload_n 0, 25, 0, 0, 0) := by decide +kernel
theorem q2_25 : am_look 2 25 = some (.getfield 36, 28, 1, 1, 0) := by decide +kernel
theorem q2_28 : am_look 2 28 = some (.iload_n 3, 29, 3, 0, 0) := by decide +kernel
theorem q2_29 : am_look 2 29 = some (.iastore, 30, 0, 0, 0) := by decide +kernel
theorem q2_30 : am_look 2 30 = some (.aload_n 0, 31, 0, 0, 0) := by decide +kernel
theorem q2_31 : am_look 2 31 = some (.getfield 21, 34, 5, 5, 0) := by decide +kernel
theorem q2_34 : am_look 2 34 = some (.aload_n 0, 35, 0, 0, 0) := by decide +kernel
theorem q2_35 : am_look 2 35 = some (.getfield 36, 38, 1, 1, 0) := by decide +kernel
theorem q2_38 : am_look 2 38 = some (.iload 4, 40, 4, 0, 0) := by decide +kernel
theorem q2_40 : am_look 2 40 = some (.iastore, 41, 0, 0, 0) := by decide +kernel
theorem q2_41 : am_look 2 41 = some (.aload_n 0, 42, 0, 0, 0) := by decide +kernel
theorem q2_42 : am_look 2 42 = some (.getfield 24, 45, 6, 6, 0) := by decide +kernel
theorem q2_45 : am_look 2 45 = some (.aload_n 0, 46, 0, 0, 0) := by decide +kernel
theorem q2_46 : am_look 2 46 = some (.getfield 36, 49, 1, 1, 0) := by decide +kernel
theorem q2_49 : am_look 2 49 = some (.iconst (-1), 50, 0, 0, (-1)) := by decide +kernel
theorem q2_50 : am_look 2 50 = some (.iastore, 51, 0, 0, 0) := by decide +kernel
theorem q2_51 : am_look 2 51 = some (.aload_n 0, 52, 0, 0, 0) := by decide +kernel
theorem q2_52 : am_look 2 52 = some (.dup, 53, 0, 0, 0) := by decide +kernel
theorem q2_53 : am_look 2 53 = some (.getfield 36, 56, 1, 1, 0) := by decide +kernel
theorem q2_56 : am_look 2 56 = some (.dup_x1, 57, 0, 0, 0) := by decide +kernel
theorem q2_57 : am_look 2 57 = some (.iconst 1, 58, 0, 0, 1) := by decide +kernel
theorem q2_58 : am_look 2 58 = some (.iadd, 59, 0, 0, 0) := by decide +kernel
theorem q2_59 : am_look 2 59 = some (.putfield 36, 62, 1, 1, 0) := by decide +kernel
theorem q2_62 : am_look 2 62 = some (.ireturn, 63, 0, 0, 0) := by decide +kernel
theorem zb2 : am_zb 2 = false := by decide +kernel
theorem ml2 : am_ml 2 = 5 := by decide +kernel
theorem np2 : am_np 2 + (if am_sc 2 then 0 else 1) = 5 := by decide +kernel
theorem st2 {d : Nat} {h h1 : am_H} {r : Option am_V} (p0 : Nat) (a1 : Int) (a2 : Int) (a3 : Int) (a4 : Int) (H : am_x (am_cd d) 2 (fun r2 h2 => r2 = r ∧ h2 = h1) 0 0 [some (.inr (.inr p0)), some (.inl a1), some (.inl a2), some (.inl a3), some (.inl a4)] [] h) : am_cd (d + 1) 2 [.inr (.inr p0), .inl a1, .inl a2, .inl a3, .inl a4] h r h1 := by
  refine ⟨⟨by rw [ml2]; simp [am_en], by rw [np2]; rfl⟩, ?_⟩
  rw [ml2]; exact H
theorem q3_0 : am_look 3 0 = some (.aload_n 0, 1, 0, 0, 0) := by decide +kernel
theorem q3_1 : am_look 3 1 = some (.dup, 2, 0, 0, 0) := by decide +kernel
theorem q3_2 : am_look 3 2 = some (.getfield 36, 5, 1, 1, 0) := by decide +kernel
theorem q3_5 : am_look 3 5 = some (.iconst 1, 6, 0, 0, 1) := by decide +kernel
theorem q3_6 : am_look 3 6 = some (.isub, 7, 0, 0, 0) := by decide +kernel
theorem q3_7 : am_look 3 7 = some (.putfield 36, 10, 1, 1, 0) := by decide +kernel
theorem q3_10 : am_look 3 10 = some (.return_, 11, 0, 0, 0) := by decide +kernel
theorem zb3 : am_zb 3 = false := by decide +kernel
theorem ml3 : am_ml 3 = 1 := by decide +kernel
theorem np3 : am_np 3 + (if am_sc 3 then 0 else 1) = 1 := by decide +kernel
theorem st3 {d : Nat} {h h1 : am_H} {r : Option am_V} (p0 : Nat) (H : am_x (am_cd d) 3 (fun r2 h2 => r2 = r ∧ h2 = h1) 0 0 [some (.inr (.inr p0))] [] h) : am_cd (d + 1) 3 [.inr (.inr p0)] h r h1 := by
  refine ⟨⟨by rw [ml3]; simp [am_en], by rw [np3]; rfl⟩, ?_⟩
  rw [ml3]; exact H
theorem q4_0 : am_look 4 0 = some (.aload_n 0, 1, 0, 0, 0) := by decide +kernel
theorem q4_1 : am_look 4 1 = some (.getfield 24, 4, 6, 6, 0) := by decide +kernel
theorem q4_4 : am_look 4 4 = some (.iload_n 1, 5, 1, 0, 0) := by decide +kernel
theorem q4_5 : am_look 4 5 = some (.iaload, 6, 0, 0, 0) := by decide +kernel
theorem q4_6 : am_look 4 6 = some (.iconst (-1), 7, 0, 0, (-1)) := by decide +kernel
theorem q4_7 : am_look 4 7 = some (.if_icmp .eq 7, 10, 14, 0, 0) := by decide +kernel
theorem q4_10 : am_look 4 10 = some (.iconst 1, 11, 0, 0, 1) := by decide +kernel
theorem q4_11 : am_look 4 11 = some (.goto 4, 14, 15, 0, 0) := by decide +kernel
theorem q4_14 : am_look 4 14 = some (.iconst 0, 15, 0, 0, 0) := by decide +kernel
theorem q4_15 : am_look 4 15 = some (.ireturn, 16, 0, 0, 0) := by decide +kernel
theorem zb4 : am_zb 4 = true := by decide +kernel
theorem ml4 : am_ml 4 = 2 := by decide +kernel
theorem np4 : am_np 4 + (if am_sc 4 then 0 else 1) = 2 := by decide +kernel
theorem st4 {d : Nat} {h h1 : am_H} {r : Option am_V} (p0 : Nat) (a1 : Int) (H : am_x (am_cd d) 4 (fun r2 h2 => r2 = r ∧ h2 = h1) 0 0 [some (.inr (.inr p0)), some (.inl a1)] [] h) : am_cd (d + 1) 4 [.inr (.inr p0), .inl a1] h r h1 := by
  refine ⟨⟨by rw [ml4]; simp [am_en], by rw [np4]; rfl⟩, ?_⟩
  rw [ml4]; exact H
theorem q5_0 : am_look 5 0 = some (.aload_n 0, 1, 0, 0, 0) := by decide +kernel
theorem q5_1 : am_look 5 1 = some (.getfield 24, 4, 6, 6, 0) := by decide +kernel
theorem q5_4 : am_look 5 4 = some (.iload_n 1, 5, 1, 0, 0) := by decide +kernel
theorem q5_5 : am_look 5 5 = some (.iload_n 2, 6, 2, 0, 0) := by decide +kernel
theorem q5_6 : am_look 5 6 = some (.iastore, 7, 0, 0, 0) := by decide +kernel
theorem q5_7 : am_look 5 7 = some (.return_, 8, 0, 0, 0) := by decide +kernel
theorem zb5 : am_zb 5 = false := by decide +kernel
theorem ml5 : am_ml 5 = 3 := by decide +kernel
theorem np5 : am_np 5 + (if am_sc 5 then 0 else 1) = 3 := by decide +kernel
theorem st5 {d : Nat} {h h1 : am_H} {r : Option am_V} (p0 : Nat) (a1 : Int) (a2 : Int) (H : am_x (am_cd d) 5 (fun r2 h2 => r2 = r ∧ h2 = h1) 0 0 [some (.inr (.inr p0)), some (.inl a1), some (.inl a2)] [] h) : am_cd (d + 1) 5 [.inr (.inr p0), .inl a1, .inl a2] h r h1 := by
  refine ⟨⟨by rw [ml5]; simp [am_en], by rw [np5]; rfl⟩, ?_⟩
  rw [ml5]; exact H
theorem q6_0 : am_look 6 0 = some (.aload_n 0, 1, 0, 0, 0) := by decide +kernel
theorem q6_1 : am_look 6 1 = some (.getfield 24, 4, 6, 6, 0) := by decide +kernel
theorem q6_4 : am_look 6 4 = some (.iload_n 1, 5, 1, 0, 0) := by decide +kernel
theorem q6_5 : am_look 6 5 = some (.iconst (-1), 6, 0, 0, (-1)) := by decide +kernel
theorem q6_6 : am_look 6 6 = some (.iastore, 7, 0, 0, 0) := by decide +kernel
theorem q6_7 : am_look 6 7 = some (.return_, 8, 0, 0, 0) := by decide +kernel
theorem zb6 : am_zb 6 = false := by decide +kernel
theorem ml6 : am_ml 6 = 2 := by decide +kernel
theorem np6 : am_np 6 + (if am_sc 6 then 0 else 1) = 2 := by decide +kernel
theorem st6 {d : Nat} {h h1 : am_H} {r : Option am_V} (p0 : Nat) (a1 : Int) (H : am_x (am_cd d) 6 (fun r2 h2 => r2 = r ∧ h2 = h1) 0 0 [some (.inr (.inr p0)), some (.inl a1)] [] h) : am_cd (d + 1) 6 [.inr (.inr p0), .inl a1] h r h1 := by
  refine ⟨⟨by rw [ml6]; simp [am_en], by rw [np6]; rfl⟩, ?_⟩
  rw [ml6]; exact H
theorem q7_0 : am_look 7 0 = some (.iload_n 2, 1, 2, 0, 0) := by decide +kernel
theorem q7_1 : am_look 7 1 = some (.tableswitch 67 0 3 #[31, 40, 49, 58], 32, 0, 0, 0) := by decide +kernel
theorem q7_32 : am_look 7 32 = some (.aload_n 0, 33, 0, 0, 0) := by decide +kernel
theorem q7_33 : am_look 7 33 = some (.getfield 11, 36, 2, 2, 0) := by decide +kernel
theorem q7_36 : am_look 7 36 = some (.iload_n 1, 37, 1, 0, 0) := by decide +kernel
theorem q7_37 : am_look 7 37 = some (.iaload, 38, 0, 0, 0) := by decide +kernel
theorem q7_38 : am_look 7 38 = some (.goto 36, 41, 74, 0, 0) := by decide +kernel
theorem q7_41 : am_look 7 41 = some (.aload_n 0, 42, 0, 0, 0) := by decide +kernel
theorem q7_42 : am_look 7 42 = some (.getfield 15, 45, 3, 3, 0) := by decide +kernel
theorem q7_45 : am_look 7 45 = some (.iload_n 1, 46, 1, 0, 0) := by decide +kernel
theorem q7_46 : am_look 7 46 = some (.iaload, 47, 0, 0, 0) := by decide +kernel
theorem q7_47 : am_look 7 47 = some (.goto 27, 50, 74, 0, 0) := by decide +kernel
theorem q7_50 : am_look 7 50 = some (.aload_n 0, 51, 0, 0, 0) := by decide +kernel
theorem q7_51 : am_look 7 51 = some (.getfield 18, 54, 4, 4, 0) := by decide +kernel
theorem q7_54 : am_look 7 54 = some (.iload_n 1, 55, 1, 0, 0) := by decide +kernel
theorem q7_55 : am_look 7 55 = some (.iaload, 56, 0, 0, 0) := by decide +kernel
theorem q7_56 : am_look 7 56 = some (.goto 18, 59, 74, 0, 0) := by decide +kernel
theorem q7_59 : am_look 7 59 = some (.aload_n 0, 60, 0, 0, 0) := by decide +kernel
theorem q7_60 : am_look 7 60 = some (.getfield 21, 63, 5, 5, 0) := by decide +kernel
theorem q7_63 : am_look 7 63 = some (.iload_n 1, 64, 1, 0, 0) := by decide +kernel
theorem q7_64 : am_look 7 64 = some (.iaload, 65, 0, 0, 0) := by decide +kernel
theorem q7_65 : am_look 7 65 = some (.goto 9, 68, 74, 0, 0) := by decide +kernel
theorem q7_68 : am_look 7 68 = some (.aload_n 0, 69, 0, 0, 0) := by decide +kernel
theorem q7_69 : am_look 7 69 = some (.getfield 24, 72, 6, 6, 0) := by decide +kernel
theorem q7_72 : am_look 7 72 = some (.iload_n 1, 73, 1, 0, 0) := by decide +kernel
theorem q7_73 : am_look 7 73 = some (.iaload, 74, 0, 0, 0) := by decide +kernel
theorem q7_74 : am_look 7 74 = some (.ireturn, 75, 0, 0, 0) := by decide +kernel
theorem zb7 : am_zb 7 = false := by decide +kernel
theorem ml7 : am_ml 7 = 3 := by decide +kernel
theorem np7 : am_np 7 + (if am_sc 7 then 0 else 1) = 3 := by decide +kernel
theorem st7 {d : Nat} {h h1 : am_H} {r : Option am_V} (p0 : Nat) (a1 : Int) (a2 : Int) (H : am_x (am_cd d) 7 (fun r2 h2 => r2 = r ∧ h2 = h1) 0 0 [some (.inr (.inr p0)), some (.inl a1), some (.inl a2)] [] h) : am_cd (d + 1) 7 [.inr (.inr p0), .inl a1, .inl a2] h r h1 := by
  refine ⟨⟨by rw [ml7]; simp [am_en], by rw [np7]; rfl⟩, ?_⟩
  rw [ml7]; exact H
theorem q8_0 : am_look 8 0 = some (.aload_n 0, 1, 0, 0, 0) := by decide +kernel
theorem q8_1 : am_look 8 1 = some (.getfield 21, 4, 5, 5, 0) := by decide +kernel
theorem q8_4 : am_look 8 4 = some (.iload_n 1, 5, 1, 0, 0) := by decide +kernel
theorem q8_5 : am_look 8 5 = some (.iaload, 6, 0, 0, 0) := by decide +kernel
theorem q8_6 : am_look 8 6 = some (.iload_n 2, 7, 2, 0, 0) := by decide +kernel
theorem q8_7 : am_look 8 7 = some (.if_icmp .gt 27, 10, 34, 0, 0) := by decide +kernel
theorem q8_10 : am_look 8 10 = some (.aload_n 0, 11, 0, 0, 0) := by decide +kernel
theorem q8_11 : am_look 8 11 = some (.getfield 24, 14, 6, 6, 0) := by decide +kernel
theorem q8_14 : am_look 8 14 = some (.iload_n 1, 15, 1, 0, 0) := by decide +kernel
theorem q8_15 : am_look 8 15 = some (.iaload, 16, 0, 0, 0) := by decide +kernel
theorem q8_16 : am_look 8 16 = some (.iconst (-1), 17, 0, 0, (-1)) := by decide +kernel
theorem q8_17 : am_look 8 17 = some (.if_icmp .eq 13, 20, 30, 0, 0) := by decide +kernel
theorem q8_20 : am_look 8 20 = some (.aload_n 0, 21, 0, 0, 0) := by decide +kernel
theorem q8_21 : am_look 8 21 = some (.getfield 24, 24, 6, 6, 0) := by decide +kernel
theorem q8_24 : am_look 8 24 = some (.iload_n 1, 25, 1, 0, 0) := by decide +kernel
theorem q8_25 : am_look 8 25 = some (.iaload, 26, 0, 0, 0) := by decide +kernel
theorem q8_26 : am_look 8 26 = some (.iload_n 2, 27, 2, 0, 0) := by decide +kernel
theorem q8_27 : am_look 8 27 = some (.if_icmp .le 7, 30, 34, 0, 0) := by decide +kernel
theorem q8_30 : am_look 8 30 = some (.iconst 1, 31, 0, 0, 1) := by decide +kernel
theorem q8_31 : am_look 8 31 = some (.goto 4, 34, 35, 0, 0) := by decide +kernel
theorem q8_34 : am_look 8 34 = some (.iconst 0, 35, 0, 0, 0) := by decide +kernel
theorem q8_35 : am_look 8 35 = some (.ireturn, 36, 0, 0, 0) := by decide +kernel
theorem zb8 : am_zb 8 = true := by decide +kernel
theorem ml8 : am_ml 8 = 3 := by decide +kernel
theorem np8 : am_np 8 + (if am_sc 8 then 0 else 1) = 3 := by decide +kernel
theorem st8 {d : Nat} {h h1 : am_H} {r : Option am_V} (p0 : Nat) (a1 : Int) (a2 : Int) (H : am_x (am_cd d) 8 (fun r2 h2 => r2 = r ∧ h2 = h1) 0 0 [some (.inr (.inr p0)), some (.inl a1), some (.inl a2)] [] h) : am_cd (d + 1) 8 [.inr (.inr p0), .inl a1, .inl a2] h r h1 := by
  refine ⟨⟨by rw [ml8]; simp [am_en], by rw [np8]; rfl⟩, ?_⟩
  rw [ml8]; exact H
theorem q9_0 : am_look 9 0 = some (.iload_n 0, 1, 0, 0, 0) := by decide +kernel
theorem q9_1 : am_look 9 1 = some (.ifCond .lt 12, 4, 13, 0, 0) := by decide +kernel
theorem q9_4 : am_look 9 4 = some (.iload_n 0, 5, 0, 0, 0) := by decide +kernel
theorem q9_5 : am_look 9 5 = some (.iconst 3, 6, 0, 0, 3) := by decide +kernel
theorem q9_6 : am_look 9 6 = some (.if_icmp .gt 7, 9, 13, 0, 0) := by decide +kernel
theorem q9_9 : am_look 9 9 = some (.iconst 1, 10, 0, 0, 1) := by decide +kernel
theorem q9_10 : am_look 9 10 = some (.goto 4, 13, 14, 0, 0) := by decide +kernel
theorem q9_13 : am_look 9 13 = some (.iconst 0, 14, 0, 0, 0) := by decide +kernel
theorem q9_14 : am_look 9 14 = some (.ireturn, 15, 0, 0, 0) := by decide +kernel
theorem zb9 : am_zb 9 = true := by decide +kernel
theorem ml9 : am_ml 9 = 1 := by decide +kernel
theorem np9 : am_np 9 + (if am_sc 9 then 0 else 1) = 1 := by decide +kernel
theorem st9 {d : Nat} {h h1 : am_H} {r : Option am_V} (a1 : Int) (H : am_x (am_cd d) 9 (fun r2 h2 => r2 = r ∧ h2 = h1) 0 0 [some (.inl a1)] [] h) : am_cd (d + 1) 9 [.inl a1] h r h1 := by
  refine ⟨⟨by rw [ml9]; simp [am_en], by rw [np9]; rfl⟩, ?_⟩
  rw [ml9]; exact H
theorem q10_0 : am_look 10 0 = some (.aload_n 0, 1, 0, 0, 0) := by decide +kernel
theorem q10_1 : am_look 10 1 = some (.getfield 21, 4, 64, 0, 0) := by decide +kernel
theorem q10_4 : am_look 10 4 = some (.ireturn, 5, 0, 0, 0) := by decide +kernel
theorem zb10 : am_zb 10 = false := by decide +kernel
theorem ml10 : am_ml 10 = 1 := by decide +kernel
theorem np10 : am_np 10 + (if am_sc 10 then 0 else 1) = 1 := by decide +kernel
theorem st10 {d : Nat} {h h1 : am_H} {r : Option am_V} (p0 : Nat) (H : am_x (am_cd d) 10 (fun r2 h2 => r2 = r ∧ h2 = h1) 0 0 [some (.inr (.inr p0))] [] h) : am_cd (d + 1) 10 [.inr (.inr p0)] h r h1 := by
  refine ⟨⟨by rw [ml10]; simp [am_en], by rw [np10]; rfl⟩, ?_⟩
  rw [ml10]; exact H
theorem q11_0 : am_look 11 0 = some (.iload_n 1, 1, 1, 0, 0) := by decide +kernel
theorem q11_1 : am_look 11 1 = some (.ifCond .lt 15, 4, 16, 0, 0) := by decide +kernel
theorem q11_4 : am_look 11 4 = some (.iload_n 1, 5, 1, 0, 0) := by decide +kernel
theorem q11_5 : am_look 11 5 = some (.aload_n 0, 6, 0, 0, 0) := by decide +kernel
theorem q11_6 : am_look 11 6 = some (.getfield 21, 9, 64, 0, 0) := by decide +kernel
theorem q11_9 : am_look 11 9 = some (.if_icmp .ge 7, 12, 16, 0, 0) := by decide +kernel
theorem q11_12 : am_look 11 12 = some (.iconst 1, 13, 0, 0, 1) := by decide +kernel
theorem q11_13 : am_look 11 13 = some (.goto 4, 16, 17, 0, 0) := by decide +kernel
theorem q11_16 : am_look 11 16 = some (.iconst 0, 17, 0, 0, 0) := by decide +kernel
theorem q11_17 : am_look 11 17 = some (.ireturn, 18, 0, 0, 0) := by decide +kernel
theorem zb11 : am_zb 11 = true := by decide +kernel
theorem ml11 : am_ml 11 = 2 := by decide +kernel
theorem np11 : am_np 11 + (if am_sc 11 then 0 else 1) = 2 := by decide +kernel
theorem st11 {d : Nat} {h h1 : am_H} {r : Option am_V} (p0 : Nat) (a1 : Int) (H : am_x (am_cd d) 11 (fun r2 h2 => r2 = r ∧ h2 = h1) 0 0 [some (.inr (.inr p0)), some (.inl a1)] [] h) : am_cd (d + 1) 11 [.inr (.inr p0), .inl a1] h r h1 := by
  refine ⟨⟨by rw [ml11]; simp [am_en], by rw [np11]; rfl⟩, ?_⟩
  rw [ml11]; exact H
theorem q12_0 : am_look 12 0 = some (.aload_n 0, 1, 0, 0, 0) := by decide +kernel
theorem q12_1 : am_look 12 1 = some (.getfield 11, 4, 65, 1, 0) := by decide +kernel
theorem q12_4 : am_look 12 4 = some (.aload_n 0, 5, 0, 0, 0) := by decide +kernel
theorem q12_5 : am_look 12 5 = some (.getfield 21, 8, 64, 0, 0) := by decide +kernel
theorem q12_8 : am_look 12 8 = some (.iload_n 1, 9, 1, 0, 0) := by decide +kernel
theorem q12_9 : am_look 12 9 = some (.iastore, 10, 0, 0, 0) := by decide +kernel
theorem q12_10 : am_look 12 10 = some (.aload_n 0, 11, 0, 0, 0) := by decide +kernel
theorem q12_11 : am_look 12 11 = some (.getfield 15, 14, 66, 2, 0) := by decide +kernel
theorem q12_14 : am_look 12 14 = some (.aload_n 0, 15, 0, 0, 0) := by decide +kernel
theorem q12_15 : am_look 12 15 = some (.getfield 21, 18, 64, 0, 0) := by decide +kernel
theorem q12_18 : am_look 12 18 = some (.iload_n 2, 19, 2, 0, 0) := by decide +kernel
theorem q12_19 : am_look 12 19 = some (.iastore, 20, 0, 0, 0) := by decide +kernel
theorem q12_20 : am_look 12 20 = some (.aload_n 0, 21, 0, 0, 0) := by decide +kernel
theorem q12_21 : am_look 12 21 = some (.getfield 18, 24, 67, 3, 0) := by decide +kernel
theorem q12_24 : am_look 12 24 = some (.aload_n 0, 25, 0, 0, 0) := by decide +kernel
theorem q12_25 : am_look 12 25 = some (.getfield 21, 28, 64, 0, 0) := by decide +kernel
theorem q12_28 : am_look 12 28 = some (.iload_n 3, 29, 3, 0, 0) := by decide +kernel
theorem q12_29 : am_look 12 29 = some (.iastore, 30, 0, 0, 0) := by decide +kernel
theorem q12_30 : am_look 12 30 = some (.aload_n 0, 31, 0, 0, 0) := by decide +kernel
theorem q12_31 : am_look 12 31 = some (.dup, 32, 0, 0, 0) := by decide +kernel
theorem q12_32 : am_look 12 32 = some (.getfield 21, 35, 64, 0, 0) := by decide +kernel
theorem q12_35 : am_look 12 35 = some (.dup_x1, 36, 0, 0, 0) := by decide +kernel
theorem q12_36 : am_look 12 36 = some (.iconst 1, 37, 0, 0, 1) := by decide +kernel
theorem q12_37 : am_look 12 37 = some (.iadd, 38, 0, 0, 0) := by decide +kernel
theorem q12_38 : am_look 12 38 = some (.putfield 21, 41, 64, 0, 0) := by decide +kernel
theorem q12_41 : am_look 12 41 = some (.ireturn, 42, 0, 0, 0) := by decide +kernel
theorem zb12 : am_zb 12 = false := by decide +kernel
theorem ml12 : am_ml 12 = 4 := by decide +kernel
theorem np12 : am_np 12 + (if am_sc 12 then 0 else 1) = 4 := by decide +kernel
theorem st12 {d : Nat} {h h1 : am_H} {r : Option am_V} (p0 : Nat) (a1 : Int) (a2 : Int) (a3 : Int) (H : am_x (am_cd d) 12 (fun r2 h2 => r2 = r ∧ h2 = h1) 0 0 [some (.inr (.inr p0)), some (.inl a1), some (.inl a2), some (.inl a3)] [] h) : am_cd (d + 1) 12 [.inr (.inr p0), .inl a1, .inl a2, .inl a3] h r h1 := by
  refine ⟨⟨by rw [ml12]; simp [am_en], by rw [np12]; rfl⟩, ?_⟩
  rw [ml12]; exact H
theorem q13_0 : am_look 13 0 = some (.aload_n 0, 1, 0, 0, 0) := by decide +kernel
theorem q13_1 : am_look 13 1 = some (.dup, 2, 0, 0, 0) := by decide +kernel
theorem q13_2 : am_look 13 2 = some (.getfield 21, 5, 64, 0, 0) := by decide +kernel
theorem q13_5 : am_look 13 5 = some (.iconst 1, 6, 0, 0, 1) := by decide +kernel
theorem q13_6 : am_look 13 6 = some (.isub, 7, 0, 0, 0) := by decide +kernel
theorem q13_7 : am_look 13 7 = some (.putfield 21, 10, 64, 0, 0) := by decide +kernel
theorem q13_10 : am_look 13 10 = some (.return_, 11, 0, 0, 0) := by decide +kernel
theorem zb13 : am_zb 13 = false := by decide +kernel
theorem ml13 : am_ml 13 = 1 := by decide +kernel
theorem np13 : am_np 13 + (if am_sc 13 then 0 else 1) = 1 := by decide +kernel
theorem st13 {d : Nat} {h h1 : am_H} {r : Option am_V} (p0 : Nat) (H : am_x (am_cd d) 13 (fun r2 h2 => r2 = r ∧ h2 = h1) 0 0 [some (.inr (.inr p0))] [] h) : am_cd (d + 1) 13 [.inr (.inr p0)] h r h1 := by
  refine ⟨⟨by rw [ml13]; simp [am_en], by rw [np13]; rfl⟩, ?_⟩
  rw [ml13]; exact H
theorem q14_0 : am_look 14 0 = some (.aload_n 0, 1, 0, 0, 0) := by decide +kernel
theorem q14_1 : am_look 14 1 = some (.getfield 11, 4, 65, 1, 0) := by decide +kernel
theorem q14_4 : am_look 14 4 = some (.iload_n 1, 5, 1, 0, 0) := by decide +kernel
theorem q14_5 : am_look 14 5 = some (.iaload, 6, 0, 0, 0) := by decide +kernel
theorem q14_6 : am_look 14 6 = some (.ireturn, 7, 0, 0, 0) := by decide +kernel
theorem zb14 : am_zb 14 = false := by decide +kernel
theorem ml14 : am_ml 14 = 2 := by decide +kernel
theorem np14 : am_np 14 + (if am_sc 14 then 0 else 1) = 2 := by decide +kernel
theorem st14 {d : Nat} {h h1 : am_H} {r : Option am_V} (p0 : Nat) (a1 : Int) (H : am_x (am_cd d) 14 (fun r2 h2 => r2 = r ∧ h2 = h1) 0 0 [some (.inr (.inr p0)), some (.inl a1)] [] h) : am_cd (d + 1) 14 [.inr (.inr p0), .inl a1] h r h1 := by
  refine ⟨⟨by rw [ml14]; simp [am_en], by rw [np14]; rfl⟩, ?_⟩
  rw [ml14]; exact H
theorem q15_0 : am_look 15 0 = some (.aload_n 0, 1, 0, 0, 0) := by decide +kernel
theorem q15_1 : am_look 15 1 = some (.getfield 15, 4, 66, 2, 0) := by decide +kernel
theorem q15_4 : am_look 15 4 = some (.iload_n 1, 5, 1, 0, 0) := by decide +kernel
theorem q15_5 : am_look 15 5 = some (.iaload, 6, 0, 0, 0) := by decide +kernel
theorem q15_6 : am_look 15 6 = some (.istore_n 3, 7, 3, 0, 0) := by decide +kernel
theorem q15_7 : am_look 15 7 = some (.iconst 0, 8, 0, 0, 0) := by decide +kernel
theorem q15_8 : am_look 15 8 = some (.istore 4, 10, 4, 0, 0) := by decide +kernel
theorem q15_10 : am_look 15 10 = some (.iload 4, 12, 4, 0, 0) := by decide +kernel
theorem q15_12 : am_look 15 12 = some (.getstatic 25, 15, 2001, 0, 0) := by decide +kernel
theorem q15_15 : am_look 15 15 = some (.arraylength, 16, 0, 0, 0) := by decide +kernel
theorem q15_16 : am_look 15 16 = some (.if_icmp .ge 26, 19, 42, 0, 0) := by decide +kernel
theorem q15_19 : am_look 15 19 = some (.iload_n 3, 20, 3, 0, 0) := by decide +kernel
theorem q15_20 : am_look 15 20 = some (.iload_n 2, 21, 2, 0, 0) := by decide +kernel
theorem q15_21 : am_look 15 21 = some (.if_icmp .eq 21, 24, 42, 0, 0) := by decide +kernel
theorem q15_24 : am_look 15 24 = some (.iload_n 3, 25, 3, 0, 0) := by decide +kernel
theorem q15_25 : am_look 15 25 = some (.ifCond .ne 5, 28, 30, 0, 0) := by decide +kernel
theorem q15_28 : am_look 15 28 = some (.iconst 0, 29, 0, 0, 0) := by decide +kernel
theorem q15_29 : am_look 15 29 = some (.ireturn, 30, 0, 0, 0) := by decide +kernel
theorem q15_30 : am_look 15 30 = some (.getstatic 25, 33, 2001, 0, 0) := by decide +kernel
theorem q15_33 : am_look 15 33 = some (.iload_n 3, 34, 3, 0, 0) := by decide +kernel
theorem q15_34 : am_look 15 34 = some (.iaload, 35, 0, 0, 0) := by decide +kernel
theorem q15_35 : am_look 15 35 = some (.istore_n 3, 36, 3, 0, 0) := by decide +kernel
theorem q15_36 : am_look 15 36 = some (.iinc 4 1, 39, 4, 0, 1) := by decide +kernel
theorem q15_39 : am_look 15 39 = some (.goto (-29), 42, 10, 0, 0) := by decide +kernel
theorem q15_42 : am_look 15 42 = some (.iload_n 3, 43, 3, 0, 0) := by decide +kernel
theorem q15_43 : am_look 15 43 = some (.iload_n 2, 44, 2, 0, 0) := by decide +kernel
theorem q15_44 : am_look 15 44 = some (.if_icmp .ne 7, 47, 51, 0, 0) := by decide +kernel
theorem q15_47 : am_look 15 47 = some (.iconst 1, 48, 0, 0, 1) := by decide +kernel
theorem q15_48 : am_look 15 48 = some (.goto 4, 51, 52, 0, 0) := by decide +kernel
theorem q15_51 : am_look 15 51 = some (.iconst 0, 52, 0, 0, 0) := by decide +kernel
theorem q15_52 : am_look 15 52 = some (.ireturn, 53, 0, 0, 0) := by decide +kernel
theorem zb15 : am_zb 15 = true := by decide +kernel
theorem ml15 : am_ml 15 = 5 := by decide +kernel
theorem np15 : am_np 15 + (if am_sc 15 then 0 else 1) = 3 := by decide +kernel
theorem st15 {d : Nat} {h h1 : am_H} {r : Option am_V} (p0 : Nat) (a1 : Int) (a2 : Int) (H : am_x (am_cd d) 15 (fun r2 h2 => r2 = r ∧ h2 = h1) 0 0 [some (.inr (.inr p0)), some (.inl a1), some (.inl a2), none, none] [] h) : am_cd (d + 1) 15 [.inr (.inr p0), .inl a1, .inl a2] h r h1 := by
  refine ⟨⟨by rw [ml15]; simp [am_en], by rw [np15]; rfl⟩, ?_⟩
  rw [ml15]; exact H
theorem q16_0 : am_look 16 0 = some (.aload_n 0, 1, 0, 0, 0) := by decide +kernel
theorem q16_1 : am_look 16 1 = some (.getfield 18, 4, 67, 3, 0) := by decide +kernel
theorem q16_4 : am_look 16 4 = some (.iload_n 1, 5, 1, 0, 0) := by decide +kernel
theorem q16_5 : am_look 16 5 = some (.iaload, 6, 0, 0, 0) := by decide +kernel
theorem q16_6 : am_look 16 6 = some (.istore_n 2, 7, 2, 0, 0) := by decide +kernel
theorem q16_7 : am_look 16 7 = some (.aload_n 0, 8, 0, 0, 0) := by decide +kernel
theorem q16_8 : am_look 16 8 = some (.getfield 15, 11, 66, 2, 0) := by decide +kernel
theorem q16_11 : am_look 16 11 = some (.iload_n 1, 12, 1, 0, 0) := by decide +kernel
theorem q16_12 : am_look 16 12 = some (.iaload, 13, 0, 0, 0) := by decide +kernel
theorem q16_13 : am_look 16 13 = some (.tableswitch 51 1 3 #[27, 33, 41], 40, 0, 0, 0) := by decide +kernel
theorem q16_40 : am_look 16 40 = some (.iconst 2, 41, 0, 0, 2) := by decide +kernel
theorem q16_41 : am_look 16 41 = some (.iload_n 2, 42, 2, 0, 0) := by decide +kernel
theorem q16_42 : am_look 16 42 = some (.imul, 43, 0, 0, 0) := by decide +kernel
theorem q16_43 : am_look 16 43 = some (.goto 22, 46, 65, 0, 0) := by decide +kernel
theorem q16_46 : am_look 16 46 = some (.iload_n 2, 47, 2, 0, 0) := by decide +kernel
theorem q16_47 : am_look 16 47 = some (.iconst 2, 48, 0, 0, 2) := by decide +kernel
theorem q16_48 : am_look 16 48 = some (.idiv, 49, 0, 0, 0) := by decide +kernel
theorem q16_49 : am_look 16 49 = some (.iconst 1, 50, 0, 0, 1) := by decide +kernel
theorem q16_50 : am_look 16 50 = some (.iadd, 51, 0, 0, 0) := by decide +kernel
theorem q16_51 : am_look 16 51 = some (.goto 14, 54, 65, 0, 0) := by decide +kernel
theorem q16_54 : am_look 16 54 = some (.iconst 2, 55, 0, 0, 2) := by decide +kernel
theorem q16_55 : am_look 16 55 = some (.iconst 2, 56, 0, 0, 2) := by decide +kernel
theorem q16_56 : am_look 16 56 = some (.iload_n 2, 57, 2, 0, 0) := by decide +kernel
theorem q16_57 : am_look 16 57 = some (.imul, 58, 0, 0, 0) := by decide +kernel
theorem q16_58 : am_look 16 58 = some (.imul, 59, 0, 0, 0) := by decide +kernel
theorem q16_59 : am_look 16 59 = some (.iconst 1, 60, 0, 0, 1) := by decide +kernel
theorem q16_60 : am_look 16 60 = some (.isub, 61, 0, 0, 0) := by decide +kernel
theorem q16_61 : am_look 16 61 = some (.goto 4, 64, 65, 0, 0) := by decide +kernel
theorem q16_64 : am_look 16 64 = some (.iload_n 2, 65, 2, 0, 0) := by decide +kernel
theorem q16_65 : am_look 16 65 = some (.ireturn, 66, 0, 0, 0) := by decide +kernel
theorem zb16 : am_zb 16 = false := by decide +kernel
theorem ml16 : am_ml 16 = 3 := by decide +kernel
theorem np16 : am_np 16 + (if am_sc 16 then 0 else 1) = 2 := by decide +kernel
theorem st16 {d : Nat} {h h1 : am_H} {r : Option am_V} (p0 : Nat) (a1 : Int) (H : am_x (am_cd d) 16 (fun r2 h2 => r2 = r ∧ h2 = h1) 0 0 [some (.inr (.inr p0)), some (.inl a1), none] [] h) : am_cd (d + 1) 16 [.inr (.inr p0), .inl a1] h r h1 := by
  refine ⟨⟨by rw [ml16]; simp [am_en], by rw [np16]; rfl⟩, ?_⟩
  rw [ml16]; exact H
theorem q17_0 : am_look 17 0 = some (.iload_n 1, 1, 1, 0, 0) := by decide +kernel
theorem q17_1 : am_look 17 1 = some (.tableswitch 48 0 2 #[27, 34, 41], 28, 0, 0, 0) := by decide +kernel
theorem q17_28 : am_look 17 28 = some (.aload_n 0, 29, 0, 0, 0) := by decide +kernel
theorem q17_29 : am_look 17 29 = some (.getfield 19, 32, 132, 4, 0) := by decide +kernel
theorem q17_32 : am_look 17 32 = some (.goto 21, 35, 53, 0, 0) := by decide +kernel
theorem q17_35 : am_look 17 35 = some (.aload_n 0, 36, 0, 0, 0) := by decide +kernel
theorem q17_36 : am_look 17 36 = some (.getfield 23, 39, 133, 5, 0) := by decide +kernel
theorem q17_39 : am_look 17 39 = some (.goto 14, 42, 53, 0, 0) := by decide +kernel
theorem q17_42 : am_look 17 42 = some (.aload_n 0, 43, 0, 0, 0) := by decide +kernel
theorem q17_43 : am_look 17 43 = some (.getfield 26, 46, 134, 6, 0) := by decide +kernel
theorem q17_46 : am_look 17 46 = some (.goto 7, 49, 53, 0, 0) := by decide +kernel
theorem q17_49 : am_look 17 49 = some (.aload_n 0, 50, 0, 0, 0) := by decide +kernel
theorem q17_50 : am_look 17 50 = some (.getfield 29, 53, 135, 7, 0) := by decide +kernel
theorem q17_53 : am_look 17 53 = some (.ireturn, 54, 0, 0, 0) := by decide +kernel
theorem zb17 : am_zb 17 = false := by decide +kernel
theorem ml17 : am_ml 17 = 2 := by decide +kernel
theorem np17 : am_np 17 + (if am_sc 17 then 0 else 1) = 2 := by decide +kernel
theorem st17 {d : Nat} {h h1 : am_H} {r : Option am_V} (p0 : Nat) (a1 : Int) (H : am_x (am_cd d) 17 (fun r2 h2 => r2 = r ∧ h2 = h1) 0 0 [some (.inr (.inr p0)), some (.inl a1)] [] h) : am_cd (d + 1) 17 [.inr (.inr p0), .inl a1] h r h1 := by
  refine ⟨⟨by rw [ml17]; simp [am_en], by rw [np17]; rfl⟩, ?_⟩
  rw [ml17]; exact H
theorem q18_0 : am_look 18 0 = some (.iload_n 1, 1, 1, 0, 0) := by decide +kernel
theorem q18_1 : am_look 18 1 = some (.aload_n 0, 2, 0, 0, 0) := by decide +kernel
theorem q18_2 : am_look 18 2 = some (.getfield 19, 5, 132, 4, 0) := by decide +kernel
theorem q18_5 : am_look 18 5 = some (.if_icmp .ne 23, 8, 28, 0, 0) := by decide +kernel
theorem q18_8 : am_look 18 8 = some (.iload_n 2, 9, 2, 0, 0) := by decide +kernel
theorem q18_9 : am_look 18 9 = some (.aload_n 0, 10, 0, 0, 0) := by decide +kernel
theorem q18_10 : am_look 18 10 = some (.getfield 23, 13, 133, 5, 0) := by decide +kernel
theorem q18_13 : am_look 18 13 = some (.if_icmp .ne 15, 16, 28, 0, 0) := by decide +kernel
theorem q18_16 : am_look 18 16 = some (.iload_n 3, 17, 3, 0, 0) := by decide +kernel
theorem q18_17 : am_look 18 17 = some (.aload_n 0, 18, 0, 0, 0) := by decide +kernel
theorem q18_18 : am_look 18 18 = some (.getfield 26, 21, 134, 6, 0) := by decide +kernel
theorem q18_21 : am_look 18 21 = some (.if_icmp .ge 7, 24, 28, 0, 0) := by decide +kernel
theorem q18_24 : am_look 18 24 = some (.iconst 1, 25, 0, 0, 1) := by decide +kernel
theorem q18_25 : am_look 18 25 = some (.goto 4, 28, 29, 0, 0) := by decide +kernel
theorem q18_28 : am_look 18 28 = some (.iconst 0, 29, 0, 0, 0) := by decide +kernel
theorem q18_29 : am_look 18 29 = some (.istore 5, 31, 5, 0, 0) := by decide +kernel
theorem q18_31 : am_look 18 31 = some (.iload_n 1, 32, 1, 0, 0) := by decide +kernel
theorem q18_32 : am_look 18 32 = some (.aload_n 0, 33, 0, 0, 0) := by decide +kernel
theorem q18_33 : am_look 18 33 = some (.getfield 19, 36, 132, 4, 0) := by decide +kernel
theorem q18_36 : am_look 18 36 = some (.if_icmp .lt 8, 39, 44, 0, 0) := by decide +kernel
theorem q18_39 : am_look 18 39 = some (.iload 5, 41, 5, 0, 0) := by decide +kernel
theorem q18_41 : am_look 18 41 = some (.ifCond .eq 24, 44, 65, 0, 0) := by decide +kernel
theorem q18_44 : am_look 18 44 = some (.aload_n 0, 45, 0, 0, 0) := by decide +kernel
theorem q18_45 : am_look 18 45 = some (.iload_n 1, 46, 1, 0, 0) := by decide +kernel
theorem q18_46 : am_look 18 46 = some (.putfield 19, 49, 132, 4, 0) := by decide +kernel
theorem q18_49 : am_look 18 49 = some (.aload_n 0, 50, 0, 0, 0) := by decide +kernel
theorem q18_50 : am_look 18 50 = some (.iload_n 2, 51, 2, 0, 0) := by decide +kernel
theorem q18_51 : am_look 18 51 = some (.putfield 23, 54, 133, 5, 0) := by decide +kernel
theorem q18_54 : am_look 18 54 = some (.aload_n 0, 55, 0, 0, 0) := by decide +kernel
theorem q18_55 : am_look 18 55 = some (.iload_n 3, 56, 3, 0, 0) := by decide +kernel
theorem q18_56 : am_look 18 56 = some (.putfield 26, 59, 134, 6, 0) := by decide +kernel
theorem q18_59 : am_look 18 59 = some (.aload_n 0, 60, 0, 0, 0) := by decide +kernel
theorem q18_60 : am_look 18 60 = some (.iload 4, 62, 4, 0, 0) := by decide +kernel
theorem q18_62 : am_look 18 62 = some (.putfield 29, 65, 135, 7, 0) := by decide +kernel
theorem q18_65 : am_look 18 65 = some (.return_, 66, 0, 0, 0) := by decide +kernel
theorem zb18 : am_zb 18 = false := by decide +kernel
theorem ml18 : am_ml 18 = 6 := by decide +kernel
theorem np18 : am_np 18 + (if am_sc 18 then 0 else 1) = 5 := by decide +kernel
theorem st18 {d : Nat} {h h1 : am_H} {r : Option am_V} (p0 : Nat) (a1 : Int) (a2 : Int) (a3 : Int) (a4 : Int) (H : am_x (am_cd d) 18 (fun r2 h2 => r2 = r ∧ h2 = h1) 0 0 [some (.inr (.inr p0)), some (.inl a1), some (.inl a2), some (.inl a3), some (.inl a4), none] [] h) : am_cd (d + 1) 18 [.inr (.inr p0), .inl a1, .inl a2, .inl a3, .inl a4] h r h1 := by
  refine ⟨⟨by rw [ml18]; simp [am_en], by rw [np18]; rfl⟩, ?_⟩
  rw [ml18]; exact H
theorem q19_0 : am_look 19 0 = some (.iload_n 1, 1, 1, 0, 0) := by decide +kernel
theorem q19_1 : am_look 19 1 = some (.iconst 1, 2, 0, 0, 1) := by decide +kernel
theorem q19_2 : am_look 19 2 = some (.iadd, 3, 0, 0, 0) := by decide +kernel
theorem q19_3 : am_look 19 3 = some (.istore 4, 5, 4, 0, 0) := by decide +kernel
theorem q19_5 : am_look 19 5 = some (.iload 4, 7, 4, 0, 0) := by decide +kernel
theorem q19_7 : am_look 19 7 = some (.aload_n 0, 8, 0, 0, 0) := by decide +kernel
theorem q19_8 : am_look 19 8 = some (.getfield 73, 11, 201, 9, 0) := by decide +kernel
theorem q19_11 : am_look 19 11 = some (.if_icmp .ge 37, 14, 48, 0, 0) := by decide +kernel
theorem q19_14 : am_look 19 14 = some (.aload_n 0, 15, 0, 0, 0) := by decide +kernel
theorem q19_15 : am_look 19 15 = some (.getfield 20, 18, 197, 5, 0) := by decide +kernel
theorem q19_18 : am_look 19 18 = some (.iload 4, 20, 4, 0, 0) := by decide +kernel
theorem q19_20 : am_look 19 20 = some (.iconst 4, 21, 0, 0, 4) := by decide +kernel
theorem q19_21 : am_look 19 21 = some (.imul, 22, 0, 0, 0) := by decide +kernel
theorem q19_22 : am_look 19 22 = some (.iload_n 2, 23, 2, 0, 0) := by decide +kernel
theorem q19_23 : am_look 19 23 = some (.iadd, 24, 0, 0, 0) := by decide +kernel
theorem q19_24 : am_look 19 24 = some (.dup2, 25, 0, 0, 0) := by decide +kernel
theorem q19_25 : am_look 19 25 = some (.iaload, 26, 0, 0, 0) := by decide +kernel
theorem q19_26 : am_look 19 26 = some (.iload_n 3, 27, 3, 0, 0) := by decide +kernel
theorem q19_27 : am_look 19 27 = some (.aload_n 0, 28, 0, 0, 0) := by decide +kernel
theorem q19_28 : am_look 19 28 = some (.getfield 17, 31, 196, 4, 0) := by decide +kernel
theorem q19_31 : am_look 19 31 = some (.iload 4, 33, 4, 0, 0) := by decide +kernel
theorem q19_33 : am_look 19 33 = some (.bipush 10, 35, 0, 0, 10) := by decide +kernel
theorem q19_35 : am_look 19 35 = some (.imul, 36, 0, 0, 0) := by decide +kernel
theorem q19_36 : am_look 19 36 = some (.iload_n 1, 37, 1, 0, 0) := by decide +kernel
theorem q19_37 : am_look 19 37 = some (.iadd, 38, 0, 0, 0) := by decide +kernel
theorem q19_38 : am_look 19 38 = some (.iaload, 39, 0, 0, 0) := by decide +kernel
theorem q19_39 : am_look 19 39 = some (.imul, 40, 0, 0, 0) := by decide +kernel
theorem q19_40 : am_look 19 40 = some (.iadd, 41, 0, 0, 0) := by decide +kernel
theorem q19_41 : am_look 19 41 = some (.iastore, 42, 0, 0, 0) := by decide +kernel
theorem q19_42 : am_look 19 42 = some (.iinc 4 1, 45, 4, 0, 1) := by decide +kernel
theorem q19_45 : am_look 19 45 = some (.goto (-40), 48, 5, 0, 0) := by decide +kernel
theorem q19_48 : am_look 19 48 = some (.return_, 49, 0, 0, 0) := by decide +kernel
theorem zb19 : am_zb 19 = false := by decide +kernel
theorem ml19 : am_ml 19 = 5 := by decide +kernel
theorem np19 : am_np 19 + (if am_sc 19 then 0 else 1) = 4 := by decide +kernel
theorem st19 {d : Nat} {h h1 : am_H} {r : Option am_V} (p0 : Nat) (a1 : Int) (a2 : Int) (a3 : Int) (H : am_x (am_cd d) 19 (fun r2 h2 => r2 = r ∧ h2 = h1) 0 0 [some (.inr (.inr p0)), some (.inl a1), some (.inl a2), some (.inl a3), none] [] h) : am_cd (d + 1) 19 [.inr (.inr p0), .inl a1, .inl a2, .inl a3] h r h1 := by
  refine ⟨⟨by rw [ml19]; simp [am_en], by rw [np19]; rfl⟩, ?_⟩
  rw [ml19]; exact H
theorem q20_0 : am_look 20 0 = some (.aload_n 0, 1, 0, 0, 0) := by decide +kernel
theorem q20_1 : am_look 20 1 = some (.getfield 20, 4, 197, 5, 0) := by decide +kernel
theorem q20_4 : am_look 20 4 = some (.iload_n 1, 5, 1, 0, 0) := by decide +kernel
theorem q20_5 : am_look 20 5 = some (.iconst 4, 6, 0, 0, 4) := by decide +kernel
theorem q20_6 : am_look 20 6 = some (.imul, 7, 0, 0, 0) := by decide +kernel
theorem q20_7 : am_look 20 7 = some (.iload_n 2, 8, 2, 0, 0) := by decide +kernel
theorem q20_8 : am_look 20 8 = some (.iadd, 9, 0, 0, 0) := by decide +kernel
theorem q20_9 : am_look 20 9 = some (.iaload, 10, 0, 0, 0) := by decide +kernel
theorem q20_10 : am_look 20 10 = some (.iload_n 2, 11, 2, 0, 0) := by decide +kernel
theorem q20_11 : am_look 20 11 = some (.iload_n 3, 12, 3, 0, 0) := by decide +kernel
theorem q20_12 : am_look 20 12 = some (.if_icmp .ne 7, 15, 19, 0, 0) := by decide +kernel
theorem q20_15 : am_look 20 15 = some (.iconst 5, 16, 0, 0, 5) := by decide +kernel
theorem q20_16 : am_look 20 16 = some (.goto 4, 19, 20, 0, 0) := by decide +kernel
theorem q20_19 : am_look 20 19 = some (.iconst 0, 20, 0, 0, 0) := by decide +kernel
theorem q20_20 : am_look 20 20 = some (.iadd, 21, 0, 0, 0) := by decide +kernel
theorem q20_21 : am_look 20 21 = some (.ireturn, 22, 0, 0, 0) := by decide +kernel
theorem zb20 : am_zb 20 = false := by decide +kernel
theorem ml20 : am_ml 20 = 4 := by decide +kernel
theorem np20 : am_np 20 + (if am_sc 20 then 0 else 1) = 4 := by decide +kernel
theorem st20 {d : Nat} {h h1 : am_H} {r : Option am_V} (p0 : Nat) (a1 : Int) (a2 : Int) (a3 : Int) (H : am_x (am_cd d) 20 (fun r2 h2 => r2 = r ∧ h2 = h1) 0 0 [some (.inr (.inr p0)), some (.inl a1), some (.inl a2), some (.inl a3)] [] h) : am_cd (d + 1) 20 [.inr (.inr p0), .inl a1, .inl a2, .inl a3] h r h1 := by
  refine ⟨⟨by rw [ml20]; simp [am_en], by rw [np20]; rfl⟩, ?_⟩
  rw [ml20]; exact H
theorem q21_0 : am_look 21 0 = some (.aload_n 0, 1, 0, 0, 0) := by decide +kernel
theorem q21_1 : am_look 21 1 = some (.getfield 82, 4, 200, 8, 0) := by decide +kernel
theorem q21_4 : am_look 21 4 = some (.ireturn, 5, 0, 0, 0) := by decide +kernel
theorem zb21 : am_zb 21 = false := by decide +kernel
theorem ml21 : am_ml 21 = 1 := by decide +kernel
theorem np21 : am_np 21 + (if am_sc 21 then 0 else 1) = 1 := by decide +kernel
theorem st21 {d : Nat} {h h1 : am_H} {r : Option am_V} (p0 : Nat) (H : am_x (am_cd d) 21 (fun r2 h2 => r2 = r ∧ h2 = h1) 0 0 [some (.inr (.inr p0))] [] h) : am_cd (d + 1) 21 [.inr (.inr p0)] h r h1 := by
  refine ⟨⟨by rw [ml21]; simp [am_en], by rw [np21]; rfl⟩, ?_⟩
  rw [ml21]; exact H
theorem q22_0 : am_look 22 0 = some (.aload_n 0, 1, 0, 0, 0) := by decide +kernel
theorem q22_1 : am_look 22 1 = some (.getfield 26, 4, 199, 7, 0) := by decide +kernel
theorem q22_4 : am_look 22 4 = some (.iload_n 1, 5, 1, 0, 0) := by decide +kernel
theorem q22_5 : am_look 22 5 = some (.iaload, 6, 0, 0, 0) := by decide +kernel
theorem q22_6 : am_look 22 6 = some (.ireturn, 7, 0, 0, 0) := by decide +kernel
theorem zb22 : am_zb 22 = false := by decide +kernel
theorem ml22 : am_ml 22 = 2 := by decide +kernel
theorem np22 : am_np 22 + (if am_sc 22 then 0 else 1) = 2 := by decide +kernel
theorem st22 {d : Nat} {h h1 : am_H} {r : Option am_V} (p0 : Nat) (a1 : Int) (H : am_x (am_cd d) 22 (fun r2 h2 => r2 = r ∧ h2 = h1) 0 0 [some (.inr (.inr p0)), some (.inl a1)] [] h) : am_cd (d + 1) 22 [.inr (.inr p0), .inl a1] h r h1 := by
  refine ⟨⟨by rw [ml22]; simp [am_en], by rw [np22]; rfl⟩, ?_⟩
  rw [ml22]; exact H
theorem q23_0 : am_look 23 0 = some (.aload_n 0, 1, 0, 0, 0) := by decide +kernel
theorem q23_1 : am_look 23 1 = some (.getfield 27, 4, 256, 0, 0) := by decide +kernel
theorem q23_4 : am_look 23 4 = some (.ireturn, 5, 0, 0, 0) := by decide +kernel
theorem zb23 : am_zb 23 = false := by decide +kernel
theorem ml23 : am_ml 23 = 1 := by decide +kernel
theorem np23 : am_np 23 + (if am_sc 23 then 0 else 1) = 1 := by decide +kernel
theorem st23 {d : Nat} {h h1 : am_H} {r : Option am_V} (p0 : Nat) (H : am_x (am_cd d) 23 (fun r2 h2 => r2 = r ∧ h2 = h1) 0 0 [some (.inr (.inr p0))] [] h) : am_cd (d + 1) 23 [.inr (.inr p0)] h r h1 := by
  refine ⟨⟨by rw [ml23]; simp [am_en], by rw [np23]; rfl⟩, ?_⟩
  rw [ml23]; exact H
theorem q24_0 : am_look 24 0 = some (.iload_n 1, 1, 1, 0, 0) := by decide +kernel
theorem q24_1 : am_look 24 1 = some (.ifCond .lt 15, 4, 16, 0, 0) := by decide +kernel
theorem q24_4 : am_look 24 4 = some (.iload_n 1, 5, 1, 0, 0) := by decide +kernel
theorem q24_5 : am_look 24 5 = some (.aload_n 0, 6, 0, 0, 0) := by decide +kernel
theorem q24_6 : am_look 24 6 = some (.getfield 27, 9, 256, 0, 0) := by decide +kernel
theorem q24_9 : am_look 24 9 = some (.if_icmp .ge 7, 12, 16, 0, 0) := by decide +kernel
theorem q24_12 : am_look 24 12 = some (.iconst 1, 13, 0, 0, 1) := by decide +kernel
theorem q24_13 : am_look 24 13 = some (.goto 4, 16, 17, 0, 0) := by decide +kernel
theorem q24_16 : am_look 24 16 = some (.iconst 0, 17, 0, 0, 0) := by decide +kernel
theorem q24_17 : am_look 24 17 = some (.ireturn, 18, 0, 0, 0) := by decide +kernel
theorem zb24 : am_zb 24 = true := by decide +kernel
theorem ml24 : am_ml 24 = 2 := by decide +kernel
theorem np24 : am_np 24 + (if am_sc 24 then 0 else 1) = 2 := by decide +kernel
theorem st24 {d : Nat} {h h1 : am_H} {r : Option am_V} (p0 : Nat) (a1 : Int) (H : am_x (am_cd d) 24 (fun r2 h2 => r2 = r ∧ h2 = h1) 0 0 [some (.inr (.inr p0)), some (.inl a1)] [] h) : am_cd (d + 1) 24 [.inr (.inr p0), .inl a1] h r h1 := by
  refine ⟨⟨by rw [ml24]; simp [am_en], by rw [np24]; rfl⟩, ?_⟩
  rw [ml24]; exact H
theorem q25_0 : am_look 25 0 = some (.aload_n 0, 1, 0, 0, 0) := by decide +kernel
theorem q25_1 : am_look 25 1 = some (.getfield 11, 4, 257, 1, 0) := by decide +kernel
theorem q25_4 : am_look 25 4 = some (.iload_n 1, 5, 1, 0, 0) := by decide +kernel
theorem q25_5 : am_look 25 5 = some (.iaload, 6, 0, 0, 0) := by decide +kernel
theorem q25_6 : am_look 25 6 = some (.ireturn, 7, 0, 0, 0) := by decide +kernel
theorem zb25 : am_zb 25 = false := by decide +kernel
theorem ml25 : am_ml 25 = 2 := by decide +kernel
theorem np25 : am_np 25 + (if am_sc 25 then 0 else 1) = 2 := by decide +kernel
theorem st25 {d : Nat} {h h1 : am_H} {r : Option am_V} (p0 : Nat) (a1 : Int) (H : am_x (am_cd d) 25 (fun r2 h2 => r2 = r ∧ h2 = h1) 0 0 [some (.inr (.inr p0)), some (.inl a1)] [] h) : am_cd (d + 1) 25 [.inr (.inr p0), .inl a1] h r h1 := by
  refine ⟨⟨by rw [ml25]; simp [am_en], by rw [np25]; rfl⟩, ?_⟩
  rw [ml25]; exact H
theorem q26_0 : am_look 26 0 = some (.aload_n 0, 1, 0, 0, 0) := by decide +kernel
theorem q26_1 : am_look 26 1 = some (.getfield 15, 4, 258, 2, 0) := by decide +kernel
theorem q26_4 : am_look 26 4 = some (.iload_n 1, 5, 1, 0, 0) := by decide +kernel
theorem q26_5 : am_look 26 5 = some (.bipush 8, 7, 0, 0, 8) := by decide +kernel
theorem q26_7 : am_look 26 7 = some (.imul, 8, 0, 0, 0) := by decide +kernel
theorem q26_8 : am_look 26 8 = some (.iload_n 2, 9, 2, 0, 0) := by decide +kernel
theorem q26_9 : am_look 26 9 = some (.iadd, 10, 0, 0, 0) := by decide +kernel
theorem q26_10 : am_look 26 10 = some (.iaload, 11, 0, 0, 0) := by decide +kernel
theorem q26_11 : am_look 26 11 = some (.ireturn, 12, 0, 0, 0) := by decide +kernel
theorem zb26 : am_zb 26 = false := by decide +kernel
theorem ml26 : am_ml 26 = 3 := by decide +kernel
theorem np26 : am_np 26 + (if am_sc 26 then 0 else 1) = 3 := by decide +kernel
theorem st26 {d : Nat} {h h1 : am_H} {r : Option am_V} (p0 : Nat) (a1 : Int) (a2 : Int) (H : am_x (am_cd d) 26 (fun r2 h2 => r2 = r ∧ h2 = h1) 0 0 [some (.inr (.inr p0)), some (.inl a1), some (.inl a2)] [] h) : am_cd (d + 1) 26 [.inr (.inr p0), .inl a1, .inl a2] h r h1 := by
  refine ⟨⟨by rw [ml26]; simp [am_en], by rw [np26]; rfl⟩, ?_⟩
  rw [ml26]; exact H
theorem q27_0 : am_look 27 0 = some (.iload_n 1, 1, 1, 0, 0) := by decide +kernel
theorem q27_1 : am_look 27 1 = some (.iconst 1, 2, 0, 0, 1) := by decide +kernel
theorem q27_2 : am_look 27 2 = some (.if_icmp .lt 9, 5, 11, 0, 0) := by decide +kernel
theorem q27_5 : am_look 27 5 = some (.iload_n 1, 6, 1, 0, 0) := by decide +kernel
theorem q27_6 : am_look 27 6 = some (.bipush 8, 8, 0, 0, 8) := by decide +kernel
theorem q27_8 : am_look 27 8 = some (.if_icmp .le 5, 11, 13, 0, 0) := by decide +kernel
theorem q27_11 : am_look 27 11 = some (.iconst 0, 12, 0, 0, 0) := by decide +kernel
theorem q27_12 : am_look 27 12 = some (.ireturn, 13, 0, 0, 0) := by decide +kernel
theorem q27_13 : am_look 27 13 = some (.iconst 0, 14, 0, 0, 0) := by decide +kernel
theorem q27_14 : am_look 27 14 = some (.istore 4, 16, 4, 0, 0) := by decide +kernel
theorem q27_16 : am_look 27 16 = some (.iload 4, 18, 4, 0, 0) := by decide +kernel
theorem q27_18 : am_look 27 18 = some (.iload_n 1, 19, 1, 0, 0) := by decide +kernel
theorem q27_19 : am_look 27 19 = some (.if_icmp .ge 42, 22, 61, 0, 0) := by decide +kernel
theorem q27_22 : am_look 27 22 = some (.aload_n 0, 23, 0, 0, 0) := by decide +kernel
theorem q27_23 : am_look 27 23 = some (.getfield 18, 26, 260, 4, 0) := by decide +kernel
theorem q27_26 : am_look 27 26 = some (.iload 4, 28, 4, 0, 0) := by decide +kernel
theorem q27_28 : am_look 27 28 = some (.lload_n 2, 29, 2, 0, 0) := by decide +kernel
theorem q27_29 : am_look 27 29 = some (.bipush 8, 31, 0, 0, 8) := by decide +kernel
theorem q27_31 : am_look 27 31 = some (.iload 4, 33, 4, 0, 0) := by decide +kernel
theorem q27_33 : am_look 27 33 = some (.imul, 34, 0, 0, 0) := by decide +kernel
theorem q27_34 : am_look 27 34 = some (.lushr, 35, 0, 0, 0) := by decide +kernel
theorem q27_35 : am_look 27 35 = some (.ldc2_w 31, 38, 0, 0, 255) := by decide +kernel
theorem q27_38 : am_look 27 38 = some (.land, 39, 0, 0, 0) := by decide +kernel
theorem q27_39 : am_look 27 39 = some (.l2i, 40, 0, 0, 0) := by decide +kernel
theorem q27_40 : am_look 27 40 = some (.iastore, 41, 0, 0, 0) := by decide +kernel
theorem q27_41 : am_look 27 41 = some (.aload_n 0, 42, 0, 0, 0) := by decide +kernel
theorem q27_42 : am_look 27 42 = some (.getfield 18, 45, 260, 4, 0) := by decide +kernel
theorem q27_45 : am_look 27 45 = some (.iload 4, 47, 4, 0, 0) := by decide +kernel
theorem q27_47 : am_look 27 47 = some (.iaload, 48, 0, 0, 0) := by decide +kernel
theorem q27_48 : am_look 27 48 = some (.bipush 26, 50, 0, 0, 26) := by decide +kernel
theorem q27_50 : am_look 27 50 = some (.if_icmp .lt 5, 53, 55, 0, 0) := by decide +kernel
theorem q27_53 : am_look 27 53 = some (.iconst 0, 54, 0, 0, 0) := by decide +kernel
theorem q27_54 : am_look 27 54 = some (.ireturn, 55, 0, 0, 0) := by decide +kernel
theorem q27_55 : am_look 27 55 = some (.iinc 4 1, 58, 4, 0, 1) := by decide +kernel
theorem q27_58 : am_look 27 58 = some (.goto (-42), 61, 16, 0, 0) := by decide +kernel
theorem q27_61 : am_look 27 61 = some (.aload_n 0, 62, 0, 0, 0) := by decide +kernel
theorem q27_62 : am_look 27 62 = some (.iload_n 1, 63, 1, 0, 0) := by decide +kernel
theorem q27_63 : am_look 27 63 = some (.putfield 33, 66, 259, 3, 0) := by decide +kernel
theorem q27_66 : am_look 27 66 = some (.iconst 1, 67, 0, 0, 1) := by decide +kernel
theorem q27_67 : am_look 27 67 = some (.ireturn, 68, 0, 0, 0) := by decide +kernel
theorem zb27 : am_zb 27 = true := by decide +kernel
theorem ml27 : am_ml 27 = 5 := by decide +kernel
theorem np27 : am_np 27 + (if am_sc 27 then 0 else 1) = 3 := by decide +kernel
theorem st27 {d : Nat} {h h1 : am_H} {r : Option am_V} (p0 : Nat) (a1 : Int) (a2 : Int64) (H : am_x (am_cd d) 27 (fun r2 h2 => r2 = r ∧ h2 = h1) 0 0 [some (.inr (.inr p0)), some (.inl a1), some (.inr (.inl a2)), none, none] [] h) : am_cd (d + 1) 27 [.inr (.inr p0), .inl a1, .inr (.inl a2)] h r h1 := by
  refine ⟨⟨by rw [ml27]; simp [am_en], by rw [np27]; rfl⟩, ?_⟩
  rw [ml27]; exact H
theorem q28_0 : am_look 28 0 = some (.aload_n 0, 1, 0, 0, 0) := by decide +kernel
theorem q28_1 : am_look 28 1 = some (.dup, 2, 0, 0, 0) := by decide +kernel
theorem q28_2 : am_look 28 2 = some (.getfield 27, 5, 256, 0, 0) := by decide +kernel
theorem q28_5 : am_look 28 5 = some (.iload_n 1, 6, 1, 0, 0) := by decide +kernel
theorem q28_6 : am_look 28 6 = some (.isub, 7, 0, 0, 0) := by decide +kernel
theorem q28_7 : am_look 28 7 = some (.putfield 27, 10, 256, 0, 0) := by decide +kernel
theorem q28_10 : am_look 28 10 = some (.return_, 11, 0, 0, 0) := by decide +kernel
theorem zb28 : am_zb 28 = false := by decide +kernel
theorem ml28 : am_ml 28 = 2 := by decide +kernel
theorem np28 : am_np 28 + (if am_sc 28 then 0 else 1) = 2 := by decide +kernel
theorem st28 {d : Nat} {h h1 : am_H} {r : Option am_V} (p0 : Nat) (a1 : Int) (H : am_x (am_cd d) 28 (fun r2 h2 => r2 = r ∧ h2 = h1) 0 0 [some (.inr (.inr p0)), some (.inl a1)] [] h) : am_cd (d + 1) 28 [.inr (.inr p0), .inl a1] h r h1 := by
  refine ⟨⟨by rw [ml28]; simp [am_en], by rw [np28]; rfl⟩, ?_⟩
  rw [ml28]; exact H
theorem q29_0 : am_look 29 0 = some (.iload_n 0, 1, 0, 0, 0) := by decide +kernel
theorem q29_1 : am_look 29 1 = some (.iload_n 1, 2, 1, 0, 0) := by decide +kernel
theorem q29_2 : am_look 29 2 = some (.if_icmp .ne 5, 5, 7, 0, 0) := by decide +kernel
theorem q29_5 : am_look 29 5 = some (.iconst 0, 6, 0, 0, 0) := by decide +kernel
theorem q29_6 : am_look 29 6 = some (.ireturn, 7, 0, 0, 0) := by decide +kernel
theorem q29_7 : am_look 29 7 = some (.iload_n 0, 8, 0, 0, 0) := by decide +kernel
theorem q29_8 : am_look 29 8 = some (.iconst 5, 9, 0, 0, 5) := by decide +kernel
theorem q29_9 : am_look 29 9 = some (.idiv, 10, 0, 0, 0) := by decide +kernel
theorem q29_10 : am_look 29 10 = some (.iload_n 1, 11, 1, 0, 0) := by decide +kernel
theorem q29_11 : am_look 29 11 = some (.iconst 5, 12, 0, 0, 5) := by decide +kernel
theorem q29_12 : am_look 29 12 = some (.idiv, 13, 0, 0, 0) := by decide +kernel
theorem q29_13 : am_look 29 13 = some (.if_icmp .ne 7, 16, 20, 0, 0) := by decide +kernel
theorem q29_16 : am_look 29 16 = some (.iconst 1, 17, 0, 0, 1) := by decide +kernel
theorem q29_17 : am_look 29 17 = some (.goto 4, 20, 21, 0, 0) := by decide +kernel
theorem q29_20 : am_look 29 20 = some (.iconst 3, 21, 0, 0, 3) := by decide +kernel
theorem q29_21 : am_look 29 21 = some (.ireturn, 22, 0, 0, 0) := by decide +kernel
theorem zb29 : am_zb 29 = false := by decide +kernel
theorem ml29 : am_ml 29 = 2 := by decide +kernel
theorem np29 : am_np 29 + (if am_sc 29 then 0 else 1) = 2 := by decide +kernel
theorem st29 {d : Nat} {h h1 : am_H} {r : Option am_V} (a1 : Int) (a2 : Int) (H : am_x (am_cd d) 29 (fun r2 h2 => r2 = r ∧ h2 = h1) 0 0 [some (.inl a1), some (.inl a2)] [] h) : am_cd (d + 1) 29 [.inl a1, .inl a2] h r h1 := by
  refine ⟨⟨by rw [ml29]; simp [am_en], by rw [np29]; rfl⟩, ?_⟩
  rw [ml29]; exact H
theorem q30_0 : am_look 30 0 = some (.aload_n 0, 1, 0, 0, 0) := by decide +kernel
theorem q30_1 : am_look 30 1 = some (.getfield 19, 4, 320, 0, 0) := by decide +kernel
theorem q30_4 : am_look 30 4 = some (.ireturn, 5, 0, 0, 0) := by decide +kernel
theorem zb30 : am_zb 30 = false := by decide +kernel
theorem ml30 : am_ml 30 = 1 := by decide +kernel
theorem np30 : am_np 30 + (if am_sc 30 then 0 else 1) = 1 := by decide +kernel
theorem st30 {d : Nat} {h h1 : am_H} {r : Option am_V} (p0 : Nat) (H : am_x (am_cd d) 30 (fun r2 h2 => r2 = r ∧ h2 = h1) 0 0 [some (.inr (.inr p0))] [] h) : am_cd (d + 1) 30 [.inr (.inr p0)] h r h1 := by
  refine ⟨⟨by rw [ml30]; simp [am_en], by rw [np30]; rfl⟩, ?_⟩
  rw [ml30]; exact H
theorem q31_0 : am_look 31 0 = some (.aload_n 0, 1, 0, 0, 0) := by decide +kernel
theorem q31_1 : am_look 31 1 = some (.dup, 2, 0, 0, 0) := by decide +kernel
theorem q31_2 : am_look 31 2 = some (.getfield 19, 5, 320, 0, 0) := by decide +kernel
theorem q31_5 : am_look 31 5 = some (.iconst 1, 6, 0, 0, 1) := by decide +kernel
theorem q31_6 : am_look 31 6 = some (.isub, 7, 0, 0, 0) := by decide +kernel
theorem q31_7 : am_look 31 7 = some (.putfield 19, 10, 320, 0, 0) := by decide +kernel
theorem q31_10 : am_look 31 10 = some (.aload_n 0, 11, 0, 0, 0) := by decide +kernel
theorem q31_11 : am_look 31 11 = some (.getfield 9, 14, 321, 1, 0) := by decide +kernel
theorem q31_14 : am_look 31 14 = some (.iconst 1, 15, 0, 0, 1) := by decide +kernel
theorem q31_15 : am_look 31 15 = some (.aload_n 0, 16, 0, 0, 0) := by decide +kernel
theorem q31_16 : am_look 31 16 = some (.getfield 9, 19, 321, 1, 0) := by decide +kernel
theorem q31_19 : am_look 31 19 = some (.iconst 0, 20, 0, 0, 0) := by decide +kernel
theorem q31_20 : am_look 31 20 = some (.aload_n 0, 21, 0, 0, 0) := by decide +kernel
theorem q31_21 : am_look 31 21 = some (.getfield 19, 24, 320, 0, 0) := by decide +kernel
theorem q31_24 : am_look 31 24 = some (.invokestatic 26, 27, 9999, 5, 0) := by decide +kernel
theorem q31_27 : am_look 31 27 = some (.aload_n 0, 28, 0, 0, 0) := by decide +kernel
theorem q31_28 : am_look 31 28 = some (.getfield 13, 31, 322, 2, 0) := by decide +kernel
theorem q31_31 : am_look 31 31 = some (.iconst 1, 32, 0, 0, 1) := by decide +kernel
theorem q31_32 : am_look 31 32 = some (.aload_n 0, 33, 0, 0, 0) := by decide +kernel
theorem q31_33 : am_look 31 33 = some (.getfield 13, 36, 322, 2, 0) := by decide +kernel
theorem q31_36 : am_look 31 36 = some (.iconst 0, 37, 0, 0, 0) := by decide +kernel
theorem q31_37 : am_look 31 37 = some (.aload_n 0, 38, 0, 0, 0) := by decide +kernel
theorem q31_38 : am_look 31 38 = some (.getfield 19, 41, 320, 0, 0) := by decide +kernel
theorem q31_41 : am_look 31 41 = some (.invokestatic 26, 44, 9999, 5, 0) := by decide +kernel
theorem q31_44 : am_look 31 44 = some (.aload_n 0, 45, 0, 0, 0) := by decide +kernel
theorem q31_45 : am_look 31 45 = some (.getfield 16, 48, 323, 3, 0) := by decide +kernel
theorem q31_48 : am_look 31 48 = some (.iconst 1, 49, 0, 0, 1) := by decide +kernel
theorem q31_49 : am_look 31 49 = some (.aload_n 0, 50, 0, 0, 0) := by decide +kernel
theorem q31_50 : am_look 31 50 = some (.getfield 16, 53, 323, 3, 0) := by decide +kernel
theorem q31_53 : am_look 31 53 = some (.iconst 0, 54, 0, 0, 0) := by decide +kernel
theorem q31_54 : am_look 31 54 = some (.aload_n 0, 55, 0, 0, 0) := by decide +kernel
theorem q31_55 : am_look 31 55 = some (.getfield 19, 58, 320, 0, 0) := by decide +kernel
theorem q31_58 : am_look 31 58 = some (.invokestatic 26, 61, 9999, 5, 0) := by decide +kernel
theorem q31_61 : am_look 31 61 = some (.return_, 62, 0, 0, 0) := by decide +kernel
theorem zb31 : am_zb 31 = false := by decide +kernel
theorem ml31 : am_ml 31 = 1 := by decide +kernel
theorem np31 : am_np 31 + (if am_sc 31 then 0 else 1) = 1 := by decide +kernel
theorem st31 {d : Nat} {h h1 : am_H} {r : Option am_V} (p0 : Nat) (H : am_x (am_cd d) 31 (fun r2 h2 => r2 = r ∧ h2 = h1) 0 0 [some (.inr (.inr p0))] [] h) : am_cd (d + 1) 31 [.inr (.inr p0)] h r h1 := by
  refine ⟨⟨by rw [ml31]; simp [am_en], by rw [np31]; rfl⟩, ?_⟩
  rw [ml31]; exact H
theorem q32_0 : am_look 32 0 = some (.aload_n 0, 1, 0, 0, 0) := by decide +kernel
theorem q32_1 : am_look 32 1 = some (.getfield 9, 4, 321, 1, 0) := by decide +kernel
theorem q32_4 : am_look 32 4 = some (.aload_n 0, 5, 0, 0, 0) := by decide +kernel
theorem q32_5 : am_look 32 5 = some (.getfield 19, 8, 320, 0, 0) := by decide +kernel
theorem q32_8 : am_look 32 8 = some (.iconst 1, 9, 0, 0, 1) := by decide +kernel
theorem q32_9 : am_look 32 9 = some (.isub, 10, 0, 0, 0) := by decide +kernel
theorem q32_10 : am_look 32 10 = some (.iaload, 11, 0, 0, 0) := by decide +kernel
theorem q32_11 : am_look 32 11 = some (.ireturn, 12, 0, 0, 0) := by decide +kernel
theorem zb32 : am_zb 32 = false := by decide +kernel
theorem ml32 : am_ml 32 = 1 := by decide +kernel
theorem np32 : am_np 32 + (if am_sc 32 then 0 else 1) = 1 := by decide +kernel
theorem st32 {d : Nat} {h h1 : am_H} {r : Option am_V} (p0 : Nat) (H : am_x (am_cd d) 32 (fun r2 h2 => r2 = r ∧ h2 = h1) 0 0 [some (.inr (.inr p0))] [] h) : am_cd (d + 1) 32 [.inr (.inr p0)] h r h1 := by
  refine ⟨⟨by rw [ml32]; simp [am_en], by rw [np32]; rfl⟩, ?_⟩
  rw [ml32]; exact H
theorem q33_0 : am_look 33 0 = some (.aload_n 0, 1, 0, 0, 0) := by decide +kernel
theorem q33_1 : am_look 33 1 = some (.getfield 13, 4, 322, 2, 0) := by decide +kernel
theorem q33_4 : am_look 33 4 = some (.aload_n 0, 5, 0, 0, 0) := by decide +kernel
theorem q33_5 : am_look 33 5 = some (.getfield 19, 8, 320, 0, 0) := by decide +kernel
theorem q33_8 : am_look 33 8 = some (.iconst 1, 9, 0, 0, 1) := by decide +kernel
theorem q33_9 : am_look 33 9 = some (.isub, 10, 0, 0, 0) := by decide +kernel
theorem q33_10 : am_look 33 10 = some (.iaload, 11, 0, 0, 0) := by decide +kernel
theorem q33_11 : am_look 33 11 = some (.ireturn, 12, 0, 0, 0) := by decide +kernel
theorem zb33 : am_zb 33 = false := by decide +kernel
theorem ml33 : am_ml 33 = 1 := by decide +kernel
theorem np33 : am_np 33 + (if am_sc 33 then 0 else 1) = 1 := by decide +kernel
theorem st33 {d : Nat} {h h1 : am_H} {r : Option am_V} (p0 : Nat) (H : am_x (am_cd d) 33 (fun r2 h2 => r2 = r ∧ h2 = h1) 0 0 [some (.inr (.inr p0))] [] h) : am_cd (d + 1) 33 [.inr (.inr p0)] h r h1 := by
  refine ⟨⟨by rw [ml33]; simp [am_en], by rw [np33]; rfl⟩, ?_⟩
  rw [ml33]; exact H
theorem q34_0 : am_look 34 0 = some (.aload_n 0, 1, 0, 0, 0) := by decide +kernel
theorem q34_1 : am_look 34 1 = some (.getfield 16, 4, 323, 3, 0) := by decide +kernel
theorem q34_4 : am_look 34 4 = some (.aload_n 0, 5, 0, 0, 0) := by decide +kernel
theorem q34_5 : am_look 34 5 = some (.getfield 19, 8, 320, 0, 0) := by decide +kernel
theorem q34_8 : am_look 34 8 = some (.iconst 1, 9, 0, 0, 1) := by decide +kernel
theorem q34_9 : am_look 34 9 = some (.isub, 10, 0, 0, 0) := by decide +kernel
theorem q34_10 : am_look 34 10 = some (.iaload, 11, 0, 0, 0) := by decide +kernel
theorem q34_11 : am_look 34 11 = some (.ireturn, 12, 0, 0, 0) := by decide +kernel
theorem zb34 : am_zb 34 = false := by decide +kernel
theorem ml34 : am_ml 34 = 1 := by decide +kernel
theorem np34 : am_np 34 + (if am_sc 34 then 0 else 1) = 1 := by decide +kernel
theorem st34 {d : Nat} {h h1 : am_H} {r : Option am_V} (p0 : Nat) (H : am_x (am_cd d) 34 (fun r2 h2 => r2 = r ∧ h2 = h1) 0 0 [some (.inr (.inr p0))] [] h) : am_cd (d + 1) 34 [.inr (.inr p0)] h r h1 := by
  refine ⟨⟨by rw [ml34]; simp [am_en], by rw [np34]; rfl⟩, ?_⟩
  rw [ml34]; exact H
theorem q35_0 : am_look 35 0 = some (.aload_n 0, 1, 0, 0, 0) := by decide +kernel
theorem q35_1 : am_look 35 1 = some (.dup, 2, 0, 0, 0) := by decide +kernel
theorem q35_2 : am_look 35 2 = some (.getfield 19, 5, 320, 0, 0) := by decide +kernel
theorem q35_5 : am_look 35 5 = some (.iconst 1, 6, 0, 0, 1) := by decide +kernel
theorem q35_6 : am_look 35 6 = some (.isub, 7, 0, 0, 0) := by decide +kernel
theorem q35_7 : am_look 35 7 = some (.putfield 19, 10, 320, 0, 0) := by decide +kernel
theorem q35_10 : am_look 35 10 = some (.aload_n 0, 11, 0, 0, 0) := by decide +kernel
theorem q35_11 : am_look 35 11 = some (.getfield 19, 14, 320, 0, 0) := by decide +kernel
theorem q35_14 : am_look 35 14 = some (.ireturn, 15, 0, 0, 0) := by decide +kernel
theorem zb35 : am_zb 35 = false := by decide +kernel
theorem ml35 : am_ml 35 = 1 := by decide +kernel
theorem np35 : am_np 35 + (if am_sc 35 then 0 else 1) = 1 := by decide +kernel
theorem st35 {d : Nat} {h h1 : am_H} {r : Option am_V} (p0 : Nat) (H : am_x (am_cd d) 35 (fun r2 h2 => r2 = r ∧ h2 = h1) 0 0 [some (.inr (.inr p0))] [] h) : am_cd (d + 1) 35 [.inr (.inr p0)] h r h1 := by
  refine ⟨⟨by rw [ml35]; simp [am_en], by rw [np35]; rfl⟩, ?_⟩
  rw [ml35]; exact H
theorem q36_0 : am_look 36 0 = some (.aload_n 0, 1, 0, 0, 0) := by decide +kernel
theorem q36_1 : am_look 36 1 = some (.getfield 27, 4, 384, 0, 0) := by decide +kernel
theorem q36_4 : am_look 36 4 = some (.ireturn, 5, 0, 0, 0) := by decide +kernel
theorem zb36 : am_zb 36 = false := by decide +kernel
theorem ml36 : am_ml 36 = 1 := by decide +kernel
theorem np36 : am_np 36 + (if am_sc 36 then 0 else 1) = 1 := by decide +kernel
theorem st36 {d : Nat} {h h1 : am_H} {r : Option am_V} (p0 : Nat) (H : am_x (am_cd d) 36 (fun r2 h2 => r2 = r ∧ h2 = h1) 0 0 [some (.inr (.inr p0))] [] h) : am_cd (d + 1) 36 [.inr (.inr p0)] h r h1 := by
  refine ⟨⟨by rw [ml36]; simp [am_en], by rw [np36]; rfl⟩, ?_⟩
  rw [ml36]; exact H
theorem q37_0 : am_look 37 0 = some (.iload_n 1, 1, 1, 0, 0) := by decide +kernel
theorem q37_1 : am_look 37 1 = some (.ifCond .lt 15, 4, 16, 0, 0) := by decide +kernel
theorem q37_4 : am_look 37 4 = some (.iload_n 1, 5, 1, 0, 0) := by decide +kernel
theorem q37_5 : am_look 37 5 = some (.aload_n 0, 6, 0, 0, 0) := by decide +kernel
theorem q37_6 : am_look 37 6 = some (.getfield 27, 9, 384, 0, 0) := by decide +kernel
theorem q37_9 : am_look 37 9 = some (.if_icmp .ge 7, 12, 16, 0, 0) := by decide +kernel
theorem q37_12 : am_look 37 12 = some (.iconst 1, 13, 0, 0, 1) := by decide +kernel
theorem q37_13 : am_look 37 13 = some (.goto 4, 16, 17, 0, 0) := by decide +kernel
theorem q37_16 : am_look 37 16 = some (.iconst 0, 17, 0, 0, 0) := by decide +kernel
theorem q37_17 : am_look 37 17 = some (.ireturn, 18, 0, 0, 0) := by decide +kernel
theorem zb37 : am_zb 37 = true := by decide +kernel
theorem ml37 : am_ml 37 = 2 := by decide +kernel
theorem np37 : am_np 37 + (if am_sc 37 then 0 else 1) = 2 := by decide +kernel
theorem st37 {d : Nat} {h h1 : am_H} {r : Option am_V} (p0 : Nat) (a1 : Int) (H : am_x (am_cd d) 37 (fun r2 h2 => r2 = r ∧ h2 = h1) 0 0 [some (.inr (.inr p0)), some (.inl a1)] [] h) : am_cd (d + 1) 37 [.inr (.inr p0), .inl a1] h r h1 := by
  refine ⟨⟨by rw [ml37]; simp [am_en], by rw [np37]; rfl⟩, ?_⟩
  rw [ml37]; exact H
theorem q38_0 : am_look 38 0 = some (.iconst 1, 1, 0, 0, 1) := by decide +kernel
theorem q38_1 : am_look 38 1 = some (.aload_n 0, 2, 0, 0, 0) := by decide +kernel
theorem q38_2 : am_look 38 2 = some (.getfield 27, 5, 384, 0, 0) := by decide +kernel
theorem q38_5 : am_look 38 5 = some (.ishl, 6, 0, 0, 0) := by decide +kernel
theorem q38_6 : am_look 38 6 = some (.iconst 1, 7, 0, 0, 1) := by decide +kernel
theorem q38_7 : am_look 38 7 = some (.isub, 8, 0, 0, 0) := by decide +kernel
theorem q38_8 : am_look 38 8 = some (.ireturn, 9, 0, 0, 0) := by decide +kernel
theorem zb38 : am_zb 38 = false := by decide +kernel
theorem ml38 : am_ml 38 = 1 := by decide +kernel
theorem np38 : am_np 38 + (if am_sc 38 then 0 else 1) = 1 := by decide +kernel
theorem st38 {d : Nat} {h h1 : am_H} {r : Option am_V} (p0 : Nat) (H : am_x (am_cd d) 38 (fun r2 h2 => r2 = r ∧ h2 = h1) 0 0 [some (.inr (.inr p0))] [] h) : am_cd (d + 1) 38 [.inr (.inr p0)] h r h1 := by
  refine ⟨⟨by rw [ml38]; simp [am_en], by rw [np38]; rfl⟩, ?_⟩
  rw [ml38]; exact H
theorem q39_0 : am_look 39 0 = some (.aload_n 0, 1, 0, 0, 0) := by decide +kernel
theorem q39_1 : am_look 39 1 = some (.getfield 11, 4, 385, 1, 0) := by decide +kernel
theorem q39_4 : am_look 39 4 = some (.aload_n 0, 5, 0, 0, 0) := by decide +kernel
theorem q39_5 : am_look 39 5 = some (.getfield 27, 8, 384, 0, 0) := by decide +kernel
theorem q39_8 : am_look 39 8 = some (.iload_n 1, 9, 1, 0, 0) := by decide +kernel
theorem q39_9 : am_look 39 9 = some (.bipush 100, 11, 0, 0, 100) := by decide +kernel
theorem q39_11 : am_look 39 11 = some (.idiv, 12, 0, 0, 0) := by decide +kernel
theorem q39_12 : am_look 39 12 = some (.iastore, 13, 0, 0, 0) := by decide +kernel
theorem q39_13 : am_look 39 13 = some (.aload_n 0, 14, 0, 0, 0) := by decide +kernel
theorem q39_14 : am_look 39 14 = some (.getfield 15, 17, 386, 2, 0) := by decide +kernel
theorem q39_17 : am_look 39 17 = some (.aload_n 0, 18, 0, 0, 0) := by decide +kernel
theorem q39_18 : am_look 39 18 = some (.getfield 27, 21, 384, 0, 0) := by decide +kernel
theorem q39_21 : am_look 39 21 = some (.iload_n 1, 22, 1, 0, 0) := by decide +kernel
theorem q39_22 : am_look 39 22 = some (.bipush 100, 24, 0, 0, 100) := by decide +kernel
theorem q39_24 : am_look 39 24 = some (.irem, 25, 0, 0, 0) := by decide +kernel
theorem q39_25 : am_look 39 25 = some (.iastore, 26, 0, 0, 0) := by decide +kernel
theorem q39_26 : am_look 39 26 = some (.aload_n 0, 27, 0, 0, 0) := by decide +kernel
theorem q39_27 : am_look 39 27 = some (.getfield 18, 30, 387, 3, 0) := by decide +kernel
theorem q39_30 : am_look 39 30 = some (.aload_n 0, 31, 0, 0, 0) := by decide +kernel
theorem q39_31 : am_look 39 31 = some (.getfield 27, 34, 384, 0, 0) := by decide +kernel
theorem q39_34 : am_look 39 34 = some (.iload_n 2, 35, 2, 0, 0) := by decide +kernel
theorem q39_35 : am_look 39 35 = some (.iastore, 36, 0, 0, 0) := by decide +kernel
theorem q39_36 : am_look 39 36 = some (.aload_n 0, 37, 0, 0, 0) := by decide +kernel
theorem q39_37 : am_look 39 37 = some (.dup, 38, 0, 0, 0) := by decide +kernel
theorem q39_38 : am_look 39 38 = some (.getfield 27, 41, 384, 0, 0) := by decide +kernel
theorem q39_41 : am_look 39 41 = some (.dup_x1, 42, 0, 0, 0) := by decide +kernel
theorem q39_42 : am_look 39 42 = some (.iconst 1, 43, 0, 0, 1) := by decide +kernel
theorem q39_43 : am_look 39 43 = some (.iadd, 44, 0, 0, 0) := by decide +kernel
theorem q39_44 : am_look 39 44 = some (.putfield 27, 47, 384, 0, 0) := by decide +kernel
theorem q39_47 : am_look 39 47 = some (.ireturn, 48, 0, 0, 0) := by decide +kernel
theorem zb39 : am_zb 39 = false := by decide +kernel
theorem ml39 : am_ml 39 = 3 := by decide +kernel
theorem np39 : am_np 39 + (if am_sc 39 then 0 else 1) = 3 := by decide +kernel
theorem st39 {d : Nat} {h h1 : am_H} {r : Option am_V} (p0 : Nat) (a1 : Int) (a2 : Int) (H : am_x (am_cd d) 39 (fun r2 h2 => r2 = r ∧ h2 = h1) 0 0 [some (.inr (.inr p0)), some (.inl a1), some (.inl a2)] [] h) : am_cd (d + 1) 39 [.inr (.inr p0), .inl a1, .inl a2] h r h1 := by
  refine ⟨⟨by rw [ml39]; simp [am_en], by rw [np39]; rfl⟩, ?_⟩
  rw [ml39]; exact H
theorem q40_0 : am_look 40 0 = some (.aload_n 0, 1, 0, 0, 0) := by decide +kernel
theorem q40_1 : am_look 40 1 = some (.dup, 2, 0, 0, 0) := by decide +kernel
theorem q40_2 : am_look 40 2 = some (.getfield 27, 5, 384, 0, 0) := by decide +kernel
theorem q40_5 : am_look 40 5 = some (.iconst 1, 6, 0, 0, 1) := by decide +kernel
theorem q40_6 : am_look 40 6 = some (.isub, 7, 0, 0, 0) := by decide +kernel
theorem q40_7 : am_look 40 7 = some (.putfield 27, 10, 384, 0, 0) := by decide +kernel
theorem q40_10 : am_look 40 10 = some (.return_, 11, 0, 0, 0) := by decide +kernel
theorem zb40 : am_zb 40 = false := by decide +kernel
theorem ml40 : am_ml 40 = 1 := by decide +kernel
theorem np40 : am_np 40 + (if am_sc 40 then 0 else 1) = 1 := by decide +kernel
theorem st40 {d : Nat} {h h1 : am_H} {r : Option am_V} (p0 : Nat) (H : am_x (am_cd d) 40 (fun r2 h2 => r2 = r ∧ h2 = h1) 0 0 [some (.inr (.inr p0))] [] h) : am_cd (d + 1) 40 [.inr (.inr p0)] h r h1 := by
  refine ⟨⟨by rw [ml40]; simp [am_en], by rw [np40]; rfl⟩, ?_⟩
  rw [ml40]; exact H
theorem q41_0 : am_look 41 0 = some (.aload_n 0, 1, 0, 0, 0) := by decide +kernel
theorem q41_1 : am_look 41 1 = some (.getfield 11, 4, 385, 1, 0) := by decide +kernel
theorem q41_4 : am_look 41 4 = some (.iload_n 1, 5, 1, 0, 0) := by decide +kernel
theorem q41_5 : am_look 41 5 = some (.iaload, 6, 0, 0, 0) := by decide +kernel
theorem q41_6 : am_look 41 6 = some (.ireturn, 7, 0, 0, 0) := by decide +kernel
theorem zb41 : am_zb 41 = false := by decide +kernel
theorem ml41 : am_ml 41 = 2 := by decide +kernel
theorem np41 : am_np 41 + (if am_sc 41 then 0 else 1) = 2 := by decide +kernel
theorem st41 {d : Nat} {h h1 : am_H} {r : Option am_V} (p0 : Nat) (a1 : Int) (H : am_x (am_cd d) 41 (fun r2 h2 => r2 = r ∧ h2 = h1) 0 0 [some (.inr (.inr p0)), some (.inl a1)] [] h) : am_cd (d + 1) 41 [.inr (.inr p0), .inl a1] h r h1 := by
  refine ⟨⟨by rw [ml41]; simp [am_en], by rw [np41]; rfl⟩, ?_⟩
  rw [ml41]; exact H
theorem q42_0 : am_look 42 0 = some (.aload_n 0, 1, 0, 0, 0) := by decide +kernel
theorem q42_1 : am_look 42 1 = some (.getfield 15, 4, 386, 2, 0) := by decide +kernel
theorem q42_4 : am_look 42 4 = some (.iload_n 1, 5, 1, 0, 0) := by decide +kernel
theorem q42_5 : am_look 42 5 = some (.iaload, 6, 0, 0, 0) := by decide +kernel
theorem q42_6 : am_look 42 6 = some (.ireturn, 7, 0, 0, 0) := by decide +kernel
theorem zb42 : am_zb 42 = false := by decide +kernel
theorem ml42 : am_ml 42 = 2 := by decide +kernel
theorem np42 : am_np 42 + (if am_sc 42 then 0 else 1) = 2 := by decide +kernel
theorem st42 {d : Nat} {h h1 : am_H} {r : Option am_V} (p0 : Nat) (a1 : Int) (H : am_x (am_cd d) 42 (fun r2 h2 => r2 = r ∧ h2 = h1) 0 0 [some (.inr (.inr p0)), some (.inl a1)] [] h) : am_cd (d + 1) 42 [.inr (.inr p0), .inl a1] h r h1 := by
  refine ⟨⟨by rw [ml42]; simp [am_en], by rw [np42]; rfl⟩, ?_⟩
  rw [ml42]; exact H
theorem q43_0 : am_look 43 0 = some (.aload_n 0, 1, 0, 0, 0) := by decide +kernel
theorem q43_1 : am_look 43 1 = some (.getfield 18, 4, 387, 3, 0) := by decide +kernel
theorem q43_4 : am_look 43 4 = some (.iload_n 1, 5, 1, 0, 0) := by decide +kernel
theorem q43_5 : am_look 43 5 = some (.iaload, 6, 0, 0, 0) := by decide +kernel
theorem q43_6 : am_look 43 6 = some (.ireturn, 7, 0, 0, 0) := by decide +kernel
theorem zb43 : am_zb 43 = false := by decide +kernel
theorem ml43 : am_ml 43 = 2 := by decide +kernel
theorem np43 : am_np 43 + (if am_sc 43 then 0 else 1) = 2 := by decide +kernel
theorem st43 {d : Nat} {h h1 : am_H} {r : Option am_V} (p0 : Nat) (a1 : Int) (H : am_x (am_cd d) 43 (fun r2 h2 => r2 = r ∧ h2 = h1) 0 0 [some (.inr (.inr p0)), some (.inl a1)] [] h) : am_cd (d + 1) 43 [.inr (.inr p0), .inl a1] h r h1 := by
  refine ⟨⟨by rw [ml43]; simp [am_en], by rw [np43]; rfl⟩, ?_⟩
  rw [ml43]; exact H
theorem q44_0 : am_look 44 0 = some (.iconst 0, 1, 0, 0, 0) := by decide +kernel
theorem q44_1 : am_look 44 1 = some (.istore_n 2, 2, 2, 0, 0) := by decide +kernel
theorem q44_2 : am_look 44 2 = some (.iconst 0, 3, 0, 0, 0) := by decide +kernel
theorem q44_3 : am_look 44 3 = some (.istore_n 3, 4, 3, 0, 0) := by decide +kernel
theorem q44_4 : am_look 44 4 = some (.iload_n 3, 5, 3, 0, 0) := by decide +kernel
theorem q44_5 : am_look 44 5 = some (.aload_n 0, 6, 0, 0, 0) := by decide +kernel
theorem q44_6 : am_look 44 6 = some (.getfield 27, 9, 384, 0, 0) := by decide +kernel
theorem q44_9 : am_look 44 9 = some (.if_icmp .ge 26, 12, 35, 0, 0) := by decide +kernel
theorem q44_12 : am_look 44 12 = some (.iload_n 1, 13, 1, 0, 0) := by decide +kernel
theorem q44_13 : am_look 44 13 = some (.iconst 1, 14, 0, 0, 1) := by decide +kernel
theorem q44_14 : am_look 44 14 = some (.iload_n 3, 15, 3, 0, 0) := by decide +kernel
theorem q44_15 : am_look 44 15 = some (.ishl, 16, 0, 0, 0) := by decide +kernel
theorem q44_16 : am_look 44 16 = some (.iand, 17, 0, 0, 0) := by decide +kernel
theorem q44_17 : am_look 44 17 = some (.ifCond .eq 12, 20, 29, 0, 0) := by decide +kernel
theorem q44_20 : am_look 44 20 = some (.iload_n 2, 21, 2, 0, 0) := by decide +kernel
theorem q44_21 : am_look 44 21 = some (.aload_n 0, 22, 0, 0, 0) := by decide +kernel
theorem q44_22 : am_look 44 22 = some (.getfield 18, 25, 387, 3, 0) := by decide +kernel
theorem q44_25 : am_look 44 25 = some (.iload_n 3, 26, 3, 0, 0) := by decide +kernel
theorem q44_26 : am_look 44 26 = some (.iaload, 27, 0, 0, 0) := by decide +kernel
theorem q44_27 : am_look 44 27 = some (.iadd, 28, 0, 0, 0) := by decide +kernel
theorem q44_28 : am_look 44 28 = some (.istore_n 2, 29, 2, 0, 0) := by decide +kernel
theorem q44_29 : am_look 44 29 = some (.iinc 3 1, 32, 3, 0, 1) := by decide +kernel
theorem q44_32 : am_look 44 32 = some (.goto (-28), 35, 4, 0, 0) := by decide +kernel
theorem q44_35 : am_look 44 35 = some (.iload_n 2, 36, 2, 0, 0) := by decide +kernel
theorem q44_36 : am_look 44 36 = some (.ireturn, 37, 0, 0, 0) := by decide +kernel
theorem zb44 : am_zb 44 = false := by decide +kernel
theorem ml44 : am_ml 44 = 4 := by decide +kernel
theorem np44 : am_np 44 + (if am_sc 44 then 0 else 1) = 2 := by decide +kernel
theorem st44 {d : Nat} {h h1 : am_H} {r : Option am_V} (p0 : Nat) (a1 : Int) (H : am_x (am_cd d) 44 (fun r2 h2 => r2 = r ∧ h2 = h1) 0 0 [some (.inr (.inr p0)), some (.inl a1), none, none] [] h) : am_cd (d + 1) 44 [.inr (.inr p0), .inl a1] h r h1 := by
  refine ⟨⟨by rw [ml44]; simp [am_en], by rw [np44]; rfl⟩, ?_⟩
  rw [ml44]; exact H
theorem q45_0 : am_look 45 0 = some (.iload_n 1, 1, 1, 0, 0) := by decide +kernel
theorem q45_1 : am_look 45 1 = some (.bipush 12, 3, 0, 0, 12) := by decide +kernel
theorem q45_3 : am_look 45 3 = some (.imul, 4, 0, 0, 0) := by decide +kernel
theorem q45_4 : am_look 45 4 = some (.iload_n 2, 5, 2, 0, 0) := by decide +kernel
theorem q45_5 : am_look 45 5 = some (.iadd, 6, 0, 0, 0) := by decide +kernel
theorem q45_6 : am_look 45 6 = some (.ireturn, 7, 0, 0, 0) := by decide +kernel
theorem zb45 : am_zb 45 = false := by decide +kernel
theorem ml45 : am_ml 45 = 3 := by decide +kernel
theorem np45 : am_np 45 + (if am_sc 45 then 0 else 1) = 3 := by decide +kernel
theorem st45 {d : Nat} {h h1 : am_H} {r : Option am_V} (p0 : Nat) (a1 : Int) (a2 : Int) (H : am_x (am_cd d) 45 (fun r2 h2 => r2 = r ∧ h2 = h1) 0 0 [some (.inr (.inr p0)), some (.inl a1), some (.inl a2)] [] h) : am_cd (d + 1) 45 [.inr (.inr p0), .inl a1, .inl a2] h r h1 := by
  refine ⟨⟨by rw [ml45]; simp [am_en], by rw [np45]; rfl⟩, ?_⟩
  rw [ml45]; exact H
theorem q46_0 : am_look 46 0 = some (.iload_n 1, 1, 1, 0, 0) := by decide +kernel
theorem q46_1 : am_look 46 1 = some (.bipush 12, 3, 0, 0, 12) := by decide +kernel
theorem q46_3 : am_look 46 3 = some (.idiv, 4, 0, 0, 0) := by decide +kernel
theorem q46_4 : am_look 46 4 = some (.ireturn, 5, 0, 0, 0) := by decide +kernel
theorem zb46 : am_zb 46 = false := by decide +kernel
theorem ml46 : am_ml 46 = 2 := by decide +kernel
theorem np46 : am_np 46 + (if am_sc 46 then 0 else 1) = 2 := by decide +kernel
theorem st46 {d : Nat} {h h1 : am_H} {r : Option am_V} (p0 : Nat) (a1 : Int) (H : am_x (am_cd d) 46 (fun r2 h2 => r2 = r ∧ h2 = h1) 0 0 [some (.inr (.inr p0)), some (.inl a1)] [] h) : am_cd (d + 1) 46 [.inr (.inr p0), .inl a1] h r h1 := by
  refine ⟨⟨by rw [ml46]; simp [am_en], by rw [np46]; rfl⟩, ?_⟩
  rw [ml46]; exact H
theorem q47_0 : am_look 47 0 = some (.iload_n 1, 1, 1, 0, 0) := by decide +kernel
theorem q47_1 : am_look 47 1 = some (.bipush 12, 3, 0, 0, 12) := by decide +kernel
theorem q47_3 : am_look 47 3 = some (.irem, 4, 0, 0, 0) := by decide +kernel
theorem q47_4 : am_look 47 4 = some (.ireturn, 5, 0, 0, 0) := by decide +kernel
theorem zb47 : am_zb 47 = false := by decide +kernel
theorem ml47 : am_ml 47 = 2 := by decide +kernel
theorem np47 : am_np 47 + (if am_sc 47 then 0 else 1) = 2 := by decide +kernel
theorem st47 {d : Nat} {h h1 : am_H} {r : Option am_V} (p0 : Nat) (a1 : Int) (H : am_x (am_cd d) 47 (fun r2 h2 => r2 = r ∧ h2 = h1) 0 0 [some (.inr (.inr p0)), some (.inl a1)] [] h) : am_cd (d + 1) 47 [.inr (.inr p0), .inl a1] h r h1 := by
  refine ⟨⟨by rw [ml47]; simp [am_en], by rw [np47]; rfl⟩, ?_⟩
  rw [ml47]; exact H
theorem q48_0 : am_look 48 0 = some (.iconst (-1), 1, 0, 0, (-1)) := by decide +kernel
theorem q48_1 : am_look 48 1 = some (.istore_n 2, 2, 2, 0, 0) := by decide +kernel
theorem q48_2 : am_look 48 2 = some (.ldc 51, 4, 0, 0, 1000000) := by decide +kernel
theorem q48_4 : am_look 48 4 = some (.istore_n 3, 5, 3, 0, 0) := by decide +kernel
theorem q48_5 : am_look 48 5 = some (.iconst 0, 6, 0, 0, 0) := by decide +kernel
theorem q48_6 : am_look 48 6 = some (.istore 4, 8, 4, 0, 0) := by decide +kernel
theorem q48_8 : am_look 48 8 = some (.iload 4, 10, 4, 0, 0) := by decide +kernel
theorem q48_10 : am_look 48 10 = some (.aload_n 0, 11, 0, 0, 0) := by decide +kernel
theorem q48_11 : am_look 48 11 = some (.getfield 27, 14, 384, 0, 0) := by decide +kernel
theorem q48_14 : am_look 48 14 = some (.if_icmp .ge 40, 17, 54, 0, 0) := by decide +kernel
theorem q48_17 : am_look 48 17 = some (.iload_n 1, 18, 1, 0, 0) := by decide +kernel
theorem q48_18 : am_look 48 18 = some (.iconst 1, 19, 0, 0, 1) := by decide +kernel
theorem q48_19 : am_look 48 19 = some (.iload 4, 21, 4, 0, 0) := by decide +kernel
theorem q48_21 : am_look 48 21 = some (.ishl, 22, 0, 0, 0) := by decide +kernel
theorem q48_22 : am_look 48 22 = some (.iand, 23, 0, 0, 0) := by decide +kernel
theorem q48_23 : am_look 48 23 = some (.ifCond .eq 25, 26, 48, 0, 0) := by decide +kernel
theorem q48_26 : am_look 48 26 = some (.aload_n 0, 27, 0, 0, 0) := by decide +kernel
theorem q48_27 : am_look 48 27 = some (.getfield 24, 30, 389, 5, 0) := by decide +kernel
theorem q48_30 : am_look 48 30 = some (.iload 4, 32, 4, 0, 0) := by decide +kernel
theorem q48_32 : am_look 48 32 = some (.iaload, 33, 0, 0, 0) := by decide +kernel
theorem q48_33 : am_look 48 33 = some (.iload_n 3, 34, 3, 0, 0) := by decide +kernel
theorem q48_34 : am_look 48 34 = some (.if_icmp .ge 14, 37, 48, 0, 0) := by decide +kernel
theorem q48_37 : am_look 48 37 = some (.iload 4, 39, 4, 0, 0) := by decide +kernel
theorem q48_39 : am_look 48 39 = some (.istore_n 2, 40, 2, 0, 0) := by decide +kernel
theorem q48_40 : am_look 48 40 = some (.aload_n 0, 41, 0, 0, 0) := by decide +kernel
theorem q48_41 : am_look 48 41 = some (.getfield 24, 44, 389, 5, 0) := by decide +kernel
theorem q48_44 : am_look 48 44 = some (.iload 4, 46, 4, 0, 0) := by decide +kernel
theorem q48_46 : am_look 48 46 = some (.iaload, 47, 0, 0, 0) := by decide +kernel
theorem q48_47 : am_look 48 47 = some (.istore_n 3, 48, 3, 0, 0) := by decide +kernel
theorem q48_48 : am_look 48 48 = some (.iinc 4 1, 51, 4, 0, 1) := by decide +kernel
theorem q48_51 : am_look 48 51 = some (.goto (-43), 54, 8, 0, 0) := by decide +kernel
theorem q48_54 : am_look 48 54 = some (.iload_n 2, 55, 2, 0, 0) := by decide +kernel
theorem q48_55 : am_look 48 55 = some (.ireturn, 56, 0, 0, 0) := by decide +kernel
theorem zb48 : am_zb 48 = false := by decide +kernel
theorem ml48 : am_ml 48 = 5 := by decide +kernel
theorem np48 : am_np 48 + (if am_sc 48 then 0 else 1) = 2 := by decide +kernel
theorem st48 {d : Nat} {h h1 : am_H} {r : Option am_V} (p0 : Nat) (a1 : Int) (H : am_x (am_cd d) 48 (fun r2 h2 => r2 = r ∧ h2 = h1) 0 0 [some (.inr (.inr p0)), some (.inl a1), none, none, none] [] h) : am_cd (d + 1) 48 [.inr (.inr p0), .inl a1] h r h1 := by
  refine ⟨⟨by rw [ml48]; simp [am_en], by rw [np48]; rfl⟩, ?_⟩
  rw [ml48]; exact H
theorem q49_0 : am_look 49 0 = some (.aload_n 0, 1, 0, 0, 0) := by decide +kernel
theorem q49_1 : am_look 49 1 = some (.getfield 24, 4, 389, 5, 0) := by decide +kernel
theorem q49_4 : am_look 49 4 = some (.iload_n 1, 5, 1, 0, 0) := by decide +kernel
theorem q49_5 : am_look 49 5 = some (.iaload, 6, 0, 0, 0) := by decide +kernel
theorem q49_6 : am_look 49 6 = some (.ireturn, 7, 0, 0, 0) := by decide +kernel
theorem zb49 : am_zb 49 = false := by decide +kernel
theorem ml49 : am_ml 49 = 2 := by decide +kernel
theorem np49 : am_np 49 + (if am_sc 49 then 0 else 1) = 2 := by decide +kernel
theorem st49 {d : Nat} {h h1 : am_H} {r : Option am_V} (p0 : Nat) (a1 : Int) (H : am_x (am_cd d) 49 (fun r2 h2 => r2 = r ∧ h2 = h1) 0 0 [some (.inr (.inr p0)), some (.inl a1)] [] h) : am_cd (d + 1) 49 [.inr (.inr p0), .inl a1] h r h1 := by
  refine ⟨⟨by rw [ml49]; simp [am_en], by rw [np49]; rfl⟩, ?_⟩
  rw [ml49]; exact H
theorem q50_0 : am_look 50 0 = some (.aload_n 0, 1, 0, 0, 0) := by decide +kernel
theorem q50_1 : am_look 50 1 = some (.getfield 24, 4, 389, 5, 0) := by decide +kernel
theorem q50_4 : am_look 50 4 = some (.iload_n 1, 5, 1, 0, 0) := by decide +kernel
theorem q50_5 : am_look 50 5 = some (.iaload, 6, 0, 0, 0) := by decide +kernel
theorem q50_6 : am_look 50 6 = some (.ldc 51, 8, 0, 0, 1000000) := by decide +kernel
theorem q50_8 : am_look 50 8 = some (.if_icmp .ge 7, 11, 15, 0, 0) := by decide +kernel
theorem q50_11 : am_look 50 11 = some (.iconst 1, 12, 0, 0, 1) := by decide +kernel
theorem q50_12 : am_look 50 12 = some (.goto 4, 15, 16, 0, 0) := by decide +kernel
theorem q50_15 : am_look 50 15 = some (.iconst 0, 16, 0, 0, 0) := by decide +kernel
theorem q50_16 : am_look 50 16 = some (.ireturn, 17, 0, 0, 0) := by decide +kernel
theorem zb50 : am_zb 50 = true := by decide +kernel
theorem ml50 : am_ml 50 = 2 := by decide +kernel
theorem np50 : am_np 50 + (if am_sc 50 then 0 else 1) = 2 := by decide +kernel
theorem st50 {d : Nat} {h h1 : am_H} {r : Option am_V} (p0 : Nat) (a1 : Int) (H : am_x (am_cd d) 50 (fun r2 h2 => r2 = r ∧ h2 = h1) 0 0 [some (.inr (.inr p0)), some (.inl a1)] [] h) : am_cd (d + 1) 50 [.inr (.inr p0), .inl a1] h r h1 := by
  refine ⟨⟨by rw [ml50]; simp [am_en], by rw [np50]; rfl⟩, ?_⟩
  rw [ml50]; exact H
theorem q51_0 : am_look 51 0 = some (.iload_n 0, 1, 0, 0, 0) := by decide +kernel
theorem q51_1 : am_look 51 1 = some (.ifCond .lt 12, 4, 13, 0, 0) := by decide +kernel
theorem q51_4 : am_look 51 4 = some (.iload_n 0, 5, 0, 0, 0) := by decide +kernel
theorem q51_5 : am_look 51 5 = some (.iconst 4, 6, 0, 0, 4) := by decide +kernel
theorem q51_6 : am_look 51 6 = some (.if_icmp .ge 7, 9, 13, 0, 0) := by decide +kernel
theorem q51_9 : am_look 51 9 = some (.iconst 1, 10, 0, 0, 1) := by decide +kernel
theorem q51_10 : am_look 51 10 = some (.goto 4, 13, 14, 0, 0) := by decide +kernel
theorem q51_13 : am_look 51 13 = some (.iconst 0, 14, 0, 0, 0) := by decide +kernel
theorem q51_14 : am_look 51 14 = some (.ireturn, 15, 0, 0, 0) := by decide +kernel
theorem zb51 : am_zb 51 = true := by decide +kernel
theorem ml51 : am_ml 51 = 1 := by decide +kernel
theorem np51 : am_np 51 + (if am_sc 51 then 0 else 1) = 1 := by decide +kernel
theorem st51 {d : Nat} {h h1 : am_H} {r : Option am_V} (a1 : Int) (H : am_x (am_cd d) 51 (fun r2 h2 => r2 = r ∧ h2 = h1) 0 0 [some (.inl a1)] [] h) : am_cd (d + 1) 51 [.inl a1] h r h1 := by
  refine ⟨⟨by rw [ml51]; simp [am_en], by rw [np51]; rfl⟩, ?_⟩
  rw [ml51]; exact H
theorem q52_0 : am_look 52 0 = some (.iload_n 0, 1, 0, 0, 0) := by decide +kernel
theorem q52_1 : am_look 52 1 = some (.ifCond .eq 21, 4, 22, 0, 0) := by decide +kernel
theorem q52_4 : am_look 52 4 = some (.iload_n 0, 5, 0, 0, 0) := by decide +kernel
theorem q52_5 : am_look 52 5 = some (.bipush 8, 7, 0, 0, 8) := by decide +kernel
theorem q52_7 : am_look 52 7 = some (.if_icmp .eq 15, 10, 22, 0, 0) := by decide +kernel
theorem q52_10 : am_look 52 10 = some (.iload_n 0, 11, 0, 0, 0) := by decide +kernel
theorem q52_11 : am_look 52 11 = some (.bipush 16, 13, 0, 0, 16) := by decide +kernel
theorem q52_13 : am_look 52 13 = some (.if_icmp .eq 9, 16, 22, 0, 0) := by decide +kernel
theorem q52_16 : am_look 52 16 = some (.iload_n 0, 17, 0, 0, 0) := by decide +kernel
theorem q52_17 : am_look 52 17 = some (.bipush 32, 19, 0, 0, 32) := by decide +kernel
theorem q52_19 : am_look 52 19 = some (.if_icmp .ne 7, 22, 26, 0, 0) := by decide +kernel
theorem q52_22 : am_look 52 22 = some (.iconst 1, 23, 0, 0, 1) := by decide +kernel
theorem q52_23 : am_look 52 23 = some (.goto 4, 26, 27, 0, 0) := by decide +kernel
theorem q52_26 : am_look 52 26 = some (.iconst 0, 27, 0, 0, 0) := by decide +kernel
theorem q52_27 : am_look 52 27 = some (.ireturn, 28, 0, 0, 0) := by decide +kernel
theorem zb52 : am_zb 52 = true := by decide +kernel
theorem ml52 : am_ml 52 = 1 := by decide +kernel
theorem np52 : am_np 52 + (if am_sc 52 then 0 else 1) = 1 := by decide +kernel
theorem st52 {d : Nat} {h h1 : am_H} {r : Option am_V} (a1 : Int) (H : am_x (am_cd d) 52 (fun r2 h2 => r2 = r ∧ h2 = h1) 0 0 [some (.inl a1)] [] h) : am_cd (d + 1) 52 [.inl a1] h r h1 := by
  refine ⟨⟨by rw [ml52]; simp [am_en], by rw [np52]; rfl⟩, ?_⟩
  rw [ml52]; exact H
theorem q53_0 : am_look 53 0 = some (.aload_n 0, 1, 0, 0, 0) := by decide +kernel
theorem q53_1 : am_look 53 1 = some (.getfield 9, 4, 448, 0, 0) := by decide +kernel
theorem q53_4 : am_look 53 4 = some (.iload_n 1, 5, 1, 0, 0) := by decide +kernel
theorem q53_5 : am_look 53 5 = some (.iaload, 6, 0, 0, 0) := by decide +kernel
theorem q53_6 : am_look 53 6 = some (.ifCond .ne 7, 9, 13, 0, 0) := by decide +kernel
theorem q53_9 : am_look 53 9 = some (.iconst 1, 10, 0, 0, 1) := by decide +kernel
theorem q53_10 : am_look 53 10 = some (.goto 4, 13, 14, 0, 0) := by decide +kernel
theorem q53_13 : am_look 53 13 = some (.iconst 0, 14, 0, 0, 0) := by decide +kernel
theorem q53_14 : am_look 53 14 = some (.ireturn, 15, 0, 0, 0) := by decide +kernel
theorem zb53 : am_zb 53 = true := by decide +kernel
theorem ml53 : am_ml 53 = 2 := by decide +kernel
theorem np53 : am_np 53 + (if am_sc 53 then 0 else 1) = 2 := by decide +kernel
theorem st53 {d : Nat} {h h1 : am_H} {r : Option am_V} (p0 : Nat) (a1 : Int) (H : am_x (am_cd d) 53 (fun r2 h2 => r2 = r ∧ h2 = h1) 0 0 [some (.inr (.inr p0)), some (.inl a1)] [] h) : am_cd (d + 1) 53 [.inr (.inr p0), .inl a1] h r h1 := by
  refine ⟨⟨by rw [ml53]; simp [am_en], by rw [np53]; rfl⟩, ?_⟩
  rw [ml53]; exact H
theorem q54_0 : am_look 54 0 = some (.aload_n 0, 1, 0, 0, 0) := by decide +kernel
theorem q54_1 : am_look 54 1 = some (.getfield 9, 4, 448, 0, 0) := by decide +kernel
theorem q54_4 : am_look 54 4 = some (.iload_n 1, 5, 1, 0, 0) := by decide +kernel
theorem q54_5 : am_look 54 5 = some (.iaload, 6, 0, 0, 0) := by decide +kernel
theorem q54_6 : am_look 54 6 = some (.ireturn, 7, 0, 0, 0) := by decide +kernel
theorem zb54 : am_zb 54 = false := by decide +kernel
theorem ml54 : am_ml 54 = 2 := by decide +kernel
theorem np54 : am_np 54 + (if am_sc 54 then 0 else 1) = 2 := by decide +kernel
theorem st54 {d : Nat} {h h1 : am_H} {r : Option am_V} (p0 : Nat) (a1 : Int) (H : am_x (am_cd d) 54 (fun r2 h2 => r2 = r ∧ h2 = h1) 0 0 [some (.inr (.inr p0)), some (.inl a1)] [] h) : am_cd (d + 1) 54 [.inr (.inr p0), .inl a1] h r h1 := by
  refine ⟨⟨by rw [ml54]; simp [am_en], by rw [np54]; rfl⟩, ?_⟩
  rw [ml54]; exact H
theorem q55_0 : am_look 55 0 = some (.aload_n 0, 1, 0, 0, 0) := by decide +kernel
theorem q55_1 : am_look 55 1 = some (.getfield 13, 4, 449, 1, 0) := by decide +kernel
theorem q55_4 : am_look 55 4 = some (.iload_n 1, 5, 1, 0, 0) := by decide +kernel
theorem q55_5 : am_look 55 5 = some (.iaload, 6, 0, 0, 0) := by decide +kernel
theorem q55_6 : am_look 55 6 = some (.ireturn, 7, 0, 0, 0) := by decide +kernel
theorem zb55 : am_zb 55 = false := by decide +kernel
theorem ml55 : am_ml 55 = 2 := by decide +kernel
theorem np55 : am_np 55 + (if am_sc 55 then 0 else 1) = 2 := by decide +kernel
theorem st55 {d : Nat} {h h1 : am_H} {r : Option am_V} (p0 : Nat) (a1 : Int) (H : am_x (am_cd d) 55 (fun r2 h2 => r2 = r ∧ h2 = h1) 0 0 [some (.inr (.inr p0)), some (.inl a1)] [] h) : am_cd (d + 1) 55 [.inr (.inr p0), .inl a1] h r h1 := by
  refine ⟨⟨by rw [ml55]; simp [am_en], by rw [np55]; rfl⟩, ?_⟩
  rw [ml55]; exact H
theorem q56_0 : am_look 56 0 = some (.aload_n 0, 1, 0, 0, 0) := by decide +kernel
theorem q56_1 : am_look 56 1 = some (.getfield 16, 4, 450, 2, 0) := by decide +kernel
theorem q56_4 : am_look 56 4 = some (.iload_n 1, 5, 1, 0, 0) := by decide +kernel
theorem q56_5 : am_look 56 5 = some (.bipush 20, 7, 0, 0, 20) := by decide +kernel
theorem q56_7 : am_look 56 7 = some (.imul, 8, 0, 0, 0) := by decide +kernel
theorem q56_8 : am_look 56 8 = some (.iload_n 2, 9, 2, 0, 0) := by decide +kernel
theorem q56_9 : am_look 56 9 = some (.iadd, 10, 0, 0, 0) := by decide +kernel
theorem q56_10 : am_look 56 10 = some (.aload_n 0, 11, 0, 0, 0) := by decide +kernel
theorem q56_11 : am_look 56 11 = some (.getfield 9, 14, 448, 0, 0) := by decide +kernel
theorem q56_14 : am_look 56 14 = some (.iload_n 1, 15, 1, 0, 0) := by decide +kernel
theorem q56_15 : am_look 56 15 = some (.iaload, 16, 0, 0, 0) := by decide +kernel
theorem q56_16 : am_look 56 16 = some (.lookupswitch 38 #[(8, 28), (16, 33)], 44, 0, 0, 0) := by decide +kernel
theorem q56_44 : am_look 56 44 = some (.iload_n 3, 45, 3, 0, 0) := by decide +kernel
theorem q56_45 : am_look 56 45 = some (.i2b, 46, 0, 0, 0) := by decide +kernel
theorem q56_46 : am_look 56 46 = some (.goto 9, 49, 55, 0, 0) := by decide +kernel
theorem q56_49 : am_look 56 49 = some (.iload_n 3, 50, 3, 0, 0) := by decide +kernel
theorem q56_50 : am_look 56 50 = some (.i2s, 51, 0, 0, 0) := by decide +kernel
theorem q56_51 : am_look 56 51 = some (.goto 4, 54, 55, 0, 0) := by decide +kernel
theorem q56_54 : am_look 56 54 = some (.iload_n 3, 55, 3, 0, 0) := by decide +kernel
theorem q56_55 : am_look 56 55 = some (.iastore, 56, 0, 0, 0) := by decide +kernel
theorem q56_56 : am_look 56 56 = some (.return_, 57, 0, 0, 0) := by decide +kernel
theorem zb56 : am_zb 56 = false := by decide +kernel
theorem ml56 : am_ml 56 = 4 := by decide +kernel
theorem np56 : am_np 56 + (if am_sc 56 then 0 else 1) = 4 := by decide +kernel
theorem st56 {d : Nat} {h h1 : am_H} {r : Option am_V} (p0 : Nat) (a1 : Int) (a2 : Int) (a3 : Int) (H : am_x (am_cd d) 56 (fun r2 h2 => r2 = r ∧ h2 = h1) 0 0 [some (.inr (.inr p0)), some (.inl a1), some (.inl a2), some (.inl a3)] [] h) : am_cd (d + 1) 56 [.inr (.inr p0), .inl a1, .inl a2, .inl a3] h r h1 := by
  refine ⟨⟨by rw [ml56]; simp [am_en], by rw [np56]; rfl⟩, ?_⟩
  rw [ml56]; exact H
theorem q57_0 : am_look 57 0 = some (.aload_n 0, 1, 0, 0, 0) := by decide +kernel
theorem q57_1 : am_look 57 1 = some (.getfield 16, 4, 450, 2, 0) := by decide +kernel
theorem q57_4 : am_look 57 4 = some (.iload_n 1, 5, 1, 0, 0) := by decide +kernel
theorem q57_5 : am_look 57 5 = some (.bipush 20, 7, 0, 0, 20) := by decide +kernel
theorem q57_7 : am_look 57 7 = some (.imul, 8, 0, 0, 0) := by decide +kernel
theorem q57_8 : am_look 57 8 = some (.iload_n 2, 9, 2, 0, 0) := by decide +kernel
theorem q57_9 : am_look 57 9 = some (.iadd, 10, 0, 0, 0) := by decide +kernel
theorem q57_10 : am_look 57 10 = some (.iaload, 11, 0, 0, 0) := by decide +kernel
theorem q57_11 : am_look 57 11 = some (.ireturn, 12, 0, 0, 0) := by decide +kernel
theorem zb57 : am_zb 57 = false := by decide +kernel
theorem ml57 : am_ml 57 = 3 := by decide +kernel
theorem np57 : am_np 57 + (if am_sc 57 then 0 else 1) = 3 := by decide +kernel
theorem st57 {d : Nat} {h h1 : am_H} {r : Option am_V} (p0 : Nat) (a1 : Int) (a2 : Int) (H : am_x (am_cd d) 57 (fun r2 h2 => r2 = r ∧ h2 = h1) 0 0 [some (.inr (.inr p0)), some (.inl a1), some (.inl a2)] [] h) : am_cd (d + 1) 57 [.inr (.inr p0), .inl a1, .inl a2] h r h1 := by
  refine ⟨⟨by rw [ml57]; simp [am_en], by rw [np57]; rfl⟩, ?_⟩
  rw [ml57]; exact H
theorem q58_0 : am_look 58 0 = some (.iload_n 2, 1, 2, 0, 0) := by decide +kernel
theorem q58_1 : am_look 58 1 = some (.ifCond .lt 33, 4, 34, 0, 0) := by decide +kernel
theorem q58_4 : am_look 58 4 = some (.iload_n 3, 5, 3, 0, 0) := by decide +kernel
theorem q58_5 : am_look 58 5 = some (.ifCond .lt 29, 8, 34, 0, 0) := by decide +kernel
theorem q58_8 : am_look 58 8 = some (.iload_n 3, 9, 3, 0, 0) := by decide +kernel
theorem q58_9 : am_look 58 9 = some (.aload_n 0, 10, 0, 0, 0) := by decide +kernel
theorem q58_10 : am_look 58 10 = some (.getfield 13, 13, 449, 1, 0) := by decide +kernel
theorem q58_13 : am_look 58 13 = some (.iload_n 1, 14, 1, 0, 0) := by decide +kernel
theorem q58_14 : am_look 58 14 = some (.iaload, 15, 0, 0, 0) := by decide +kernel
theorem q58_15 : am_look 58 15 = some (.if_icmp .gt 19, 18, 34, 0, 0) := by decide +kernel
theorem q58_18 : am_look 58 18 = some (.iload_n 2, 19, 2, 0, 0) := by decide +kernel
theorem q58_19 : am_look 58 19 = some (.aload_n 0, 20, 0, 0, 0) := by decide +kernel
theorem q58_20 : am_look 58 20 = some (.getfield 13, 23, 449, 1, 0) := by decide +kernel
theorem q58_23 : am_look 58 23 = some (.iload_n 1, 24, 1, 0, 0) := by decide +kernel
theorem q58_24 : am_look 58 24 = some (.iaload, 25, 0, 0, 0) := by decide +kernel
theorem q58_25 : am_look 58 25 = some (.iload_n 3, 26, 3, 0, 0) := by decide +kernel
theorem q58_26 : am_look 58 26 = some (.isub, 27, 0, 0, 0) := by decide +kernel
theorem q58_27 : am_look 58 27 = some (.if_icmp .gt 7, 30, 34, 0, 0) := by decide +kernel
theorem q58_30 : am_look 58 30 = some (.iconst 1, 31, 0, 0, 1) := by decide +kernel
theorem q58_31 : am_look 58 31 = some (.goto 4, 34, 35, 0, 0) := by decide +kernel
theorem q58_34 : am_look 58 34 = some (.iconst 0, 35, 0, 0, 0) := by decide +kernel
theorem q58_35 : am_look 58 35 = some (.ireturn, 36, 0, 0, 0) := by decide +kernel
theorem zb58 : am_zb 58 = true := by decide +kernel
theorem ml58 : am_ml 58 = 4 := by decide +kernel
theorem np58 : am_np 58 + (if am_sc 58 then 0 else 1) = 4 := by decide +kernel
theorem st58 {d : Nat} {h h1 : am_H} {r : Option am_V} (p0 : Nat) (a1 : Int) (a2 : Int) (a3 : Int) (H : am_x (am_cd d) 58 (fun r2 h2 => r2 = r ∧ h2 = h1) 0 0 [some (.inr (.inr p0)), some (.inl a1), some (.inl a2), some (.inl a3)] [] h) : am_cd (d + 1) 58 [.inr (.inr p0), .inl a1, .inl a2, .inl a3] h r h1 := by
  refine ⟨⟨by rw [ml58]; simp [am_en], by rw [np58]; rfl⟩, ?_⟩
  rw [ml58]; exact H
theorem q59_0 : am_look 59 0 = some (.aload_n 0, 1, 0, 0, 0) := by decide +kernel
theorem q59_1 : am_look 59 1 = some (.getfield 16, 4, 450, 2, 0) := by decide +kernel
theorem q59_4 : am_look 59 4 = some (.iload_n 1, 5, 1, 0, 0) := by decide +kernel
theorem q59_5 : am_look 59 5 = some (.bipush 20, 7, 0, 0, 20) := by decide +kernel
theorem q59_7 : am_look 59 7 = some (.imul, 8, 0, 0, 0) := by decide +kernel
theorem q59_8 : am_look 59 8 = some (.iload_n 2, 9, 2, 0, 0) := by decide +kernel
theorem q59_9 : am_look 59 9 = some (.iadd, 10, 0, 0, 0) := by decide +kernel
theorem q59_10 : am_look 59 10 = some (.aload_n 0, 11, 0, 0, 0) := by decide +kernel
theorem q59_11 : am_look 59 11 = some (.getfield 16, 14, 450, 2, 0) := by decide +kernel
theorem q59_14 : am_look 59 14 = some (.iload_n 3, 15, 3, 0, 0) := by decide +kernel
theorem q59_15 : am_look 59 15 = some (.bipush 20, 17, 0, 0, 20) := by decide +kernel
theorem q59_17 : am_look 59 17 = some (.imul, 18, 0, 0, 0) := by decide +kernel
theorem q59_18 : am_look 59 18 = some (.iload 4, 20, 4, 0, 0) := by decide +kernel
theorem q59_20 : am_look 59 20 = some (.iadd, 21, 0, 0, 0) := by decide +kernel
theorem q59_21 : am_look 59 21 = some (.iload 5, 23, 5, 0, 0) := by decide +kernel
theorem q59_23 : am_look 59 23 = some (.invokestatic 25, 26, 9999, 5, 0) := by decide +kernel
theorem q59_26 : am_look 59 26 = some (.return_, 27, 0, 0, 0) := by decide +kernel
theorem zb59 : am_zb 59 = false := by decide +kernel
theorem ml59 : am_ml 59 = 6 := by decide +kernel
theorem np59 : am_np 59 + (if am_sc 59 then 0 else 1) = 6 := by decide +kernel
theorem st59 {d : Nat} {h h1 : am_H} {r : Option am_V} (p0 : Nat) (a1 : Int) (a2 : Int) (a3 : Int) (a4 : Int) (a5 : Int) (H : am_x (am_cd d) 59 (fun r2 h2 => r2 = r ∧ h2 = h1) 0 0 [some (.inr (.inr p0)), some (.inl a1), some (.inl a2), some (.inl a3), some (.inl a4), some (.inl a5)] [] h) : am_cd (d + 1) 59 [.inr (.inr p0), .inl a1, .inl a2, .inl a3, .inl a4, .inl a5] h r h1 := by
  refine ⟨⟨by rw [ml59]; simp [am_en], by rw [np59]; rfl⟩, ?_⟩
  rw [ml59]; exact H
theorem q60_0 : am_look 60 0 = some (.iload_n 0, 1, 0, 0, 0) := by decide +kernel
theorem q60_1 : am_look 60 1 = some (.ifCond .lt 12, 4, 13, 0, 0) := by decide +kernel
theorem q60_4 : am_look 60 4 = some (.iload_n 0, 5, 0, 0, 0) := by decide +kernel
theorem q60_5 : am_look 60 5 = some (.iconst 4, 6, 0, 0, 4) := by decide +kernel
theorem q60_6 : am_look 60 6 = some (.if_icmp .ge 7, 9, 13, 0, 0) := by decide +kernel
theorem q60_9 : am_look 60 9 = some (.iconst 1, 10, 0, 0, 1) := by decide +kernel
theorem q60_10 : am_look 60 10 = some (.goto 4, 13, 14, 0, 0) := by decide +kernel
theorem q60_13 : am_look 60 13 = some (.iconst 0, 14, 0, 0, 0) := by decide +kernel
theorem q60_14 : am_look 60 14 = some (.ireturn, 15, 0, 0, 0) := by decide +kernel
theorem zb60 : am_zb 60 = true := by decide +kernel
theorem ml60 : am_ml 60 = 1 := by decide +kernel
theorem np60 : am_np 60 + (if am_sc 60 then 0 else 1) = 1 := by decide +kernel
theorem st60 {d : Nat} {h h1 : am_H} {r : Option am_V} (a1 : Int) (H : am_x (am_cd d) 60 (fun r2 h2 => r2 = r ∧ h2 = h1) 0 0 [some (.inl a1)] [] h) : am_cd (d + 1) 60 [.inl a1] h r h1 := by
  refine ⟨⟨by rw [ml60]; simp [am_en], by rw [np60]; rfl⟩, ?_⟩
  rw [ml60]; exact H
theorem q61_0 : am_look 61 0 = some (.aload_n 0, 1, 0, 0, 0) := by decide +kernel
theorem q61_1 : am_look 61 1 = some (.getfield 39, 4, 577, 1, 0) := by decide +kernel
theorem q61_4 : am_look 61 4 = some (.iload_n 1, 5, 1, 0, 0) := by decide +kernel
theorem q61_5 : am_look 61 5 = some (.iadd, 6, 0, 0, 0) := by decide +kernel
theorem q61_6 : am_look 61 6 = some (.bipush 80, 8, 0, 0, 80) := by decide +kernel
theorem q61_8 : am_look 61 8 = some (.if_icmp .gt 7, 11, 15, 0, 0) := by decide +kernel
theorem q61_11 : am_look 61 11 = some (.iconst 1, 12, 0, 0, 1) := by decide +kernel
theorem q61_12 : am_look 61 12 = some (.goto 4, 15, 16, 0, 0) := by decide +kernel
theorem q61_15 : am_look 61 15 = some (.iconst 0, 16, 0, 0, 0) := by decide +kernel
theorem q61_16 : am_look 61 16 = some (.ireturn, 17, 0, 0, 0) := by decide +kernel
theorem zb61 : am_zb 61 = true := by decide +kernel
theorem ml61 : am_ml 61 = 2 := by decide +kernel
theorem np61 : am_np 61 + (if am_sc 61 then 0 else 1) = 2 := by decide +kernel
theorem st61 {d : Nat} {h h1 : am_H} {r : Option am_V} (p0 : Nat) (a1 : Int) (H : am_x (am_cd d) 61 (fun r2 h2 => r2 = r ∧ h2 = h1) 0 0 [some (.inr (.inr p0)), some (.inl a1)] [] h) : am_cd (d + 1) 61 [.inr (.inr p0), .inl a1] h r h1 := by
  refine ⟨⟨by rw [ml61]; simp [am_en], by rw [np61]; rfl⟩, ?_⟩
  rw [ml61]; exact H
theorem q62_0 : am_look 62 0 = some (.iconst 0, 1, 0, 0, 0) := by decide +kernel
theorem q62_1 : am_look 62 1 = some (.istore 4, 3, 4, 0, 0) := by decide +kernel
theorem q62_3 : am_look 62 3 = some (.iload 4, 5, 4, 0, 0) := by decide +kernel
theorem q62_5 : am_look 62 5 = some (.iload_n 1, 6, 1, 0, 0) := by decide +kernel
theorem q62_6 : am_look 62 6 = some (.if_icmp .ge 40, 9, 46, 0, 0) := by decide +kernel
theorem q62_9 : am_look 62 9 = some (.aload_n 0, 10, 0, 0, 0) := by decide +kernel
theorem q62_10 : am_look 62 10 = some (.getfield 11, 13, 578, 2, 0) := by decide +kernel
theorem q62_13 : am_look 62 13 = some (.aload_n 0, 14, 0, 0, 0) := by decide +kernel
theorem q62_14 : am_look 62 14 = some (.getfield 39, 17, 577, 1, 0) := by decide +kernel
theorem q62_17 : am_look 62 17 = some (.lload_n 2, 18, 2, 0, 0) := by decide +kernel
theorem q62_18 : am_look 62 18 = some (.bipush 8, 20, 0, 0, 8) := by decide +kernel
theorem q62_20 : am_look 62 20 = some (.iload 4, 22, 4, 0, 0) := by decide +kernel
theorem q62_22 : am_look 62 22 = some (.imul, 23, 0, 0, 0) := by decide +kernel
theorem q62_23 : am_look 62 23 = some (.lushr, 24, 0, 0, 0) := by decide +kernel
theorem q62_24 : am_look 62 24 = some (.ldc2_w 43, 27, 0, 0, 255) := by decide +kernel
theorem q62_27 : am_look 62 27 = some (.land, 28, 0, 0, 0) := by decide +kernel
theorem q62_28 : am_look 62 28 = some (.l2i, 29, 0, 0, 0) := by decide +kernel
theorem q62_29 : am_look 62 29 = some (.iastore, 30, 0, 0, 0) := by decide +kernel
theorem q62_30 : am_look 62 30 = some (.aload_n 0, 31, 0, 0, 0) := by decide +kernel
theorem q62_31 : am_look 62 31 = some (.dup, 32, 0, 0, 0) := by decide +kernel
theorem q62_32 : am_look 62 32 = some (.getfield 39, 35, 577, 1, 0) := by decide +kernel
theorem q62_35 : am_look 62 35 = some (.iconst 1, 36, 0, 0, 1) := by decide +kernel
theorem q62_36 : am_look 62 36 = some (.iadd, 37, 0, 0, 0) := by decide +kernel
theorem q62_37 : am_look 62 37 = some (.putfield 39, 40, 577, 1, 0) := by decide +kernel
theorem q62_40 : am_look 62 40 = some (.iinc 4 1, 43, 4, 0, 1) := by decide +kernel
theorem q62_43 : am_look 62 43 = some (.goto (-40), 46, 3, 0, 0) := by decide +kernel
theorem q62_46 : am_look 62 46 = some (.aload_n 0, 47, 0, 0, 0) := by decide +kernel
theorem q62_47 : am_look 62 47 = some (.getfield 39, 50, 577, 1, 0) := by decide +kernel
theorem q62_50 : am_look 62 50 = some (.ireturn, 51, 0, 0, 0) := by decide +kernel
theorem zb62 : am_zb 62 = false := by decide +kernel
theorem ml62 : am_ml 62 = 5 := by decide +kernel
theorem np62 : am_np 62 + (if am_sc 62 then 0 else 1) = 3 := by decide +kernel
theorem st62 {d : Nat} {h h1 : am_H} {r : Option am_V} (p0 : Nat) (a1 : Int) (a2 : Int64) (H : am_x (am_cd d) 62 (fun r2 h2 => r2 = r ∧ h2 = h1) 0 0 [some (.inr (.inr p0)), some (.inl a1), some (.inr (.inl a2)), none, none] [] h) : am_cd (d + 1) 62 [.inr (.inr p0), .inl a1, .inr (.inl a2)] h r h1 := by
  refine ⟨⟨by rw [ml62]; simp [am_en], by rw [np62]; rfl⟩, ?_⟩
  rw [ml62]; exact H
theorem q63_0 : am_look 63 0 = some (.iload_n 0, 1, 0, 0, 0) := by decide +kernel
theorem q63_1 : am_look 63 1 = some (.bipush 97, 3, 0, 0, 97) := by decide +kernel
theorem q63_3 : am_look 63 3 = some (.if_icmp .lt 13, 6, 16, 0, 0) := by decide +kernel
theorem q63_6 : am_look 63 6 = some (.iload_n 0, 7, 0, 0, 0) := by decide +kernel
theorem q63_7 : am_look 63 7 = some (.bipush 122, 9, 0, 0, 122) := by decide +kernel
theorem q63_9 : am_look 63 9 = some (.if_icmp .gt 7, 12, 16, 0, 0) := by decide +kernel
theorem q63_12 : am_look 63 12 = some (.iconst 1, 13, 0, 0, 1) := by decide +kernel
theorem q63_13 : am_look 63 13 = some (.goto 4, 16, 17, 0, 0) := by decide +kernel
theorem q63_16 : am_look 63 16 = some (.iconst 0, 17, 0, 0, 0) := by decide +kernel
theorem q63_17 : am_look 63 17 = some (.ireturn, 18, 0, 0, 0) := by decide +kernel
theorem zb63 : am_zb 63 = true := by decide +kernel
theorem ml63 : am_ml 63 = 1 := by decide +kernel
theorem np63 : am_np 63 + (if am_sc 63 then 0 else 1) = 1 := by decide +kernel
theorem st63 {d : Nat} {h h1 : am_H} {r : Option am_V} (a1 : Int) (H : am_x (am_cd d) 63 (fun r2 h2 => r2 = r ∧ h2 = h1) 0 0 [some (.inl a1)] [] h) : am_cd (d + 1) 63 [.inl a1] h r h1 := by
  refine ⟨⟨by rw [ml63]; simp [am_en], by rw [np63]; rfl⟩, ?_⟩
  rw [ml63]; exact H
theorem q64_0 : am_look 64 0 = some (.aload_n 0, 1, 0, 0, 0) := by decide +kernel
theorem q64_1 : am_look 64 1 = some (.getfield 15, 4, 579, 3, 0) := by decide +kernel
theorem q64_4 : am_look 64 4 = some (.iload_n 1, 5, 1, 0, 0) := by decide +kernel
theorem q64_5 : am_look 64 5 = some (.iaload, 6, 0, 0, 0) := by decide +kernel
theorem q64_6 : am_look 64 6 = some (.ireturn, 7, 0, 0, 0) := by decide +kernel
theorem zb64 : am_zb 64 = false := by decide +kernel
theorem ml64 : am_ml 64 = 2 := by decide +kernel
theorem np64 : am_np 64 + (if am_sc 64 then 0 else 1) = 2 := by decide +kernel
theorem st64 {d : Nat} {h h1 : am_H} {r : Option am_V} (p0 : Nat) (a1 : Int) (H : am_x (am_cd d) 64 (fun r2 h2 => r2 = r ∧ h2 = h1) 0 0 [some (.inr (.inr p0)), some (.inl a1)] [] h) : am_cd (d + 1) 64 [.inr (.inr p0), .inl a1] h r h1 := by
  refine ⟨⟨by rw [ml64]; simp [am_en], by rw [np64]; rfl⟩, ?_⟩
  rw [ml64]; exact H
theorem q65_0 : am_look 65 0 = some (.iload_n 0, 1, 0, 0, 0) := by decide +kernel
theorem q65_1 : am_look 65 1 = some (.bipush 27, 3, 0, 0, 27) := by decide +kernel
theorem q65_3 : am_look 65 3 = some (.if_icmp .eq 8, 6, 11, 0, 0) := by decide +kernel
theorem q65_6 : am_look 65 6 = some (.iload_n 0, 7, 0, 0, 0) := by decide +kernel
theorem q65_7 : am_look 65 7 = some (.iload_n 1, 8, 1, 0, 0) := by decide +kernel
theorem q65_8 : am_look 65 8 = some (.if_icmp .ne 7, 11, 15, 0, 0) := by decide +kernel
theorem q65_11 : am_look 65 11 = some (.iconst 1, 12, 0, 0, 1) := by decide +kernel
theorem q65_12 : am_look 65 12 = some (.goto 4, 15, 16, 0, 0) := by decide +kernel
theorem q65_15 : am_look 65 15 = some (.iconst 0, 16, 0, 0, 0) := by decide +kernel
theorem q65_16 : am_look 65 16 = some (.ireturn, 17, 0, 0, 0) := by decide +kernel
theorem zb65 : am_zb 65 = true := by decide +kernel
theorem ml65 : am_ml 65 = 2 := by decide +kernel
theorem np65 : am_np 65 + (if am_sc 65 then 0 else 1) = 2 := by decide +kernel
theorem st65 {d : Nat} {h h1 : am_H} {r : Option am_V} (a1 : Int) (a2 : Int) (H : am_x (am_cd d) 65 (fun r2 h2 => r2 = r ∧ h2 = h1) 0 0 [some (.inl a1), some (.inl a2)] [] h) : am_cd (d + 1) 65 [.inl a1, .inl a2] h r h1 := by
  refine ⟨⟨by rw [ml65]; simp [am_en], by rw [np65]; rfl⟩, ?_⟩
  rw [ml65]; exact H
theorem q66_0 : am_look 66 0 = some (.aload_n 0, 1, 0, 0, 0) := by decide +kernel
theorem q66_1 : am_look 66 1 = some (.getfield 32, 4, 585, 9, 0) := by decide +kernel
theorem q66_4 : am_look 66 4 = some (.iload_n 1, 5, 1, 0, 0) := by decide +kernel
theorem q66_5 : am_look 66 5 = some (.iaload, 6, 0, 0, 0) := by decide +kernel
theorem q66_6 : am_look 66 6 = some (.ireturn, 7, 0, 0, 0) := by decide +kernel
theorem zb66 : am_zb 66 = false := by decide +kernel
theorem ml66 : am_ml 66 = 2 := by decide +kernel
theorem np66 : am_np 66 + (if am_sc 66 then 0 else 1) = 2 := by decide +kernel
theorem st66 {d : Nat} {h h1 : am_H} {r : Option am_V} (p0 : Nat) (a1 : Int) (H : am_x (am_cd d) 66 (fun r2 h2 => r2 = r ∧ h2 = h1) 0 0 [some (.inr (.inr p0)), some (.inl a1)] [] h) : am_cd (d + 1) 66 [.inr (.inr p0), .inl a1] h r h1 := by
  refine ⟨⟨by rw [ml66]; simp [am_en], by rw [np66]; rfl⟩, ?_⟩
  rw [ml66]; exact H
theorem q67_0 : am_look 67 0 = some (.aload_n 0, 1, 0, 0, 0) := by decide +kernel
theorem q67_1 : am_look 67 1 = some (.getfield 28, 4, 646, 6, 0) := by decide +kernel
theorem q67_4 : am_look 67 4 = some (.ireturn, 5, 0, 0, 0) := by decide +kernel
theorem zb67 : am_zb 67 = false := by decide +kernel
theorem ml67 : am_ml 67 = 1 := by decide +kernel
theorem np67 : am_np 67 + (if am_sc 67 then 0 else 1) = 1 := by decide +kernel
theorem st67 {d : Nat} {h h1 : am_H} {r : Option am_V} (p0 : Nat) (H : am_x (am_cd d) 67 (fun r2 h2 => r2 = r ∧ h2 = h1) 0 0 [some (.inr (.inr p0))] [] h) : am_cd (d + 1) 67 [.inr (.inr p0)] h r h1 := by
  refine ⟨⟨by rw [ml67]; simp [am_en], by rw [np67]; rfl⟩, ?_⟩
  rw [ml67]; exact H
theorem q68_0 : am_look 68 0 = some (.aload_n 0, 1, 0, 0, 0) := by decide +kernel
theorem q68_1 : am_look 68 1 = some (.getfield 21, 4, 645, 5, 0) := by decide +kernel
theorem q68_4 : am_look 68 4 = some (.iload_n 1, 5, 1, 0, 0) := by decide +kernel
theorem q68_5 : am_look 68 5 = some (.iaload, 6, 0, 0, 0) := by decide +kernel
theorem q68_6 : am_look 68 6 = some (.ireturn, 7, 0, 0, 0) := by decide +kernel
theorem zb68 : am_zb 68 = false := by decide +kernel
theorem ml68 : am_ml 68 = 2 := by decide +kernel
theorem np68 : am_np 68 + (if am_sc 68 then 0 else 1) = 2 := by decide +kernel
theorem st68 {d : Nat} {h h1 : am_H} {r : Option am_V} (p0 : Nat) (a1 : Int) (H : am_x (am_cd d) 68 (fun r2 h2 => r2 = r ∧ h2 = h1) 0 0 [some (.inr (.inr p0)), some (.inl a1)] [] h) : am_cd (d + 1) 68 [.inr (.inr p0), .inl a1] h r h1 := by
  refine ⟨⟨by rw [ml68]; simp [am_en], by rw [np68]; rfl⟩, ?_⟩
  rw [ml68]; exact H
theorem q69_0 : am_look 69 0 = some (.aload_n 0, 1, 0, 0, 0) := by decide +kernel
theorem q69_1 : am_look 69 1 = some (.getfield 15, 4, 643, 3, 0) := by decide +kernel
theorem q69_4 : am_look 69 4 = some (.iload_n 2, 5, 2, 0, 0) := by decide +kernel
theorem q69_5 : am_look 69 5 = some (.bipush 8, 7, 0, 0, 8) := by decide +kernel
theorem q69_7 : am_look 69 7 = some (.imul, 8, 0, 0, 0) := by decide +kernel
theorem q69_8 : am_look 69 8 = some (.iload_n 3, 9, 3, 0, 0) := by decide +kernel
theorem q69_9 : am_look 69 9 = some (.iadd, 10, 0, 0, 0) := by decide +kernel
theorem q69_10 : am_look 69 10 = some (.iaload, 11, 0, 0, 0) := by decide +kernel
theorem q69_11 : am_look 69 11 = some (.aload_n 0, 12, 0, 0, 0) := by decide +kernel
theorem q69_12 : am_look 69 12 = some (.getfield 18, 15, 644, 4, 0) := by decide +kernel
theorem q69_15 : am_look 69 15 = some (.iload_n 1, 16, 1, 0, 0) := by decide +kernel
theorem q69_16 : am_look 69 16 = some (.iconst 1, 17, 0, 0, 1) := by decide +kernel
theorem q69_17 : am_look 69 17 = some (.iload_n 3, 18, 3, 0, 0) := by decide +kernel
theorem q69_18 : am_look 69 18 = some (.ishl, 19, 0, 0, 0) := by decide +kernel
theorem q69_19 : am_look 69 19 = some (.ior, 20, 0, 0, 0) := by decide +kernel
theorem q69_20 : am_look 69 20 = some (.bipush 7, 22, 0, 0, 7) := by decide +kernel
theorem q69_22 : am_look 69 22 = some (.imul, 23, 0, 0, 0) := by decide +kernel
theorem q69_23 : am_look 69 23 = some (.iload_n 3, 24, 3, 0, 0) := by decide +kernel
theorem q69_24 : am_look 69 24 = some (.iadd, 25, 0, 0, 0) := by decide +kernel
theorem q69_25 : am_look 69 25 = some (.iaload, 26, 0, 0, 0) := by decide +kernel
theorem q69_26 : am_look 69 26 = some (.iadd, 27, 0, 0, 0) := by decide +kernel
theorem q69_27 : am_look 69 27 = some (.ireturn, 28, 0, 0, 0) := by decide +kernel
theorem zb69 : am_zb 69 = false := by decide +kernel
theorem ml69 : am_ml 69 = 4 := by decide +kernel
theorem np69 : am_np 69 + (if am_sc 69 then 0 else 1) = 4 := by decide +kernel
theorem st69 {d : Nat} {h h1 : am_H} {r : Option am_V} (p0 : Nat) (a1 : Int) (a2 : Int) (a3 : Int) (H : am_x (am_cd d) 69 (fun r2 h2 => r2 = r ∧ h2 = h1) 0 0 [some (.inr (.inr p0)), some (.inl a1), some (.inl a2), some (.inl a3)] [] h) : am_cd (d + 1) 69 [.inr (.inr p0), .inl a1, .inl a2, .inl a3] h r h1 := by
  refine ⟨⟨by rw [ml69]; simp [am_en], by rw [np69]; rfl⟩, ?_⟩
  rw [ml69]; exact H
theorem q70_0 : am_look 70 0 = some (.aload_n 0, 1, 0, 0, 0) := by decide +kernel
theorem q70_1 : am_look 70 1 = some (.dup, 2, 0, 0, 0) := by decide +kernel
theorem q70_2 : am_look 70 2 = some (.getfield 371, 5, 717, 13, 0) := by decide +kernel
theorem q70_5 : am_look 70 5 = some (.iconst 1, 6, 0, 0, 1) := by decide +kernel
theorem q70_6 : am_look 70 6 = some (.iadd, 7, 0, 0, 0) := by decide +kernel
theorem q70_7 : am_look 70 7 = some (.putfield 371, 10, 717, 13, 0) := by decide +kernel
theorem q70_10 : am_look 70 10 = some (.iload_n 1, 11, 1, 0, 0) := by decide +kernel
theorem q70_11 : am_look 70 11 = some (.ireturn, 12, 0, 0, 0) := by decide +kernel
theorem zb70 : am_zb 70 = false := by decide +kernel
theorem ml70 : am_ml 70 = 2 := by decide +kernel
theorem np70 : am_np 70 + (if am_sc 70 then 0 else 1) = 2 := by decide +kernel
theorem st70 {d : Nat} {h h1 : am_H} {r : Option am_V} (p0 : Nat) (a1 : Int) (H : am_x (am_cd d) 70 (fun r2 h2 => r2 = r ∧ h2 = h1) 0 0 [some (.inr (.inr p0)), some (.inl a1)] [] h) : am_cd (d + 1) 70 [.inr (.inr p0), .inl a1] h r h1 := by
  refine ⟨⟨by rw [ml70]; simp [am_en], by rw [np70]; rfl⟩, ?_⟩
  rw [ml70]; exact H
theorem q71_0 : am_look 71 0 = some (.iload_n 0, 1, 0, 0, 0) := by decide +kernel
theorem q71_1 : am_look 71 1 = some (.ifCond .lt 14, 4, 15, 0, 0) := by decide +kernel
theorem q71_4 : am_look 71 4 = some (.iload_n 0, 5, 0, 0, 0) := by decide +kernel
theorem q71_5 : am_look 71 5 = some (.sipush 999, 8, 0, 0, 999) := by decide +kernel
theorem q71_8 : am_look 71 8 = some (.if_icmp .gt 7, 11, 15, 0, 0) := by decide +kernel
theorem q71_11 : am_look 71 11 = some (.iconst 1, 12, 0, 0, 1) := by decide +kernel
theorem q71_12 : am_look 71 12 = some (.goto 4, 15, 16, 0, 0) := by decide +kernel
theorem q71_15 : am_look 71 15 = some (.iconst 0, 16, 0, 0, 0) := by decide +kernel
theorem q71_16 : am_look 71 16 = some (.ireturn, 17, 0, 0, 0) := by decide +kernel
theorem zb71 : am_zb 71 = true := by decide +kernel
theorem ml71 : am_ml 71 = 1 := by decide +kernel
theorem np71 : am_np 71 + (if am_sc 71 then 0 else 1) = 1 := by decide +kernel
theorem st71 {d : Nat} {h h1 : am_H} {r : Option am_V} (a1 : Int) (H : am_x (am_cd d) 71 (fun r2 h2 => r2 = r ∧ h2 = h1) 0 0 [some (.inl a1)] [] h) : am_cd (d + 1) 71 [.inl a1] h r h1 := by
  refine ⟨⟨by rw [ml71]; simp [am_en], by rw [np71]; rfl⟩, ?_⟩
  rw [ml71]; exact H
theorem q72_0 : am_look 72 0 = some (.iload_n 0, 1, 0, 0, 0) := by decide +kernel
theorem q72_1 : am_look 72 1 = some (.ifCond .lt 13, 4, 14, 0, 0) := by decide +kernel
theorem q72_4 : am_look 72 4 = some (.iload_n 0, 5, 0, 0, 0) := by decide +kernel
theorem q72_5 : am_look 72 5 = some (.bipush 6, 7, 0, 0, 6) := by decide +kernel
theorem q72_7 : am_look 72 7 = some (.if_icmp .ge 7, 10, 14, 0, 0) := by decide +kernel
theorem q72_10 : am_look 72 10 = some (.iconst 1, 11, 0, 0, 1) := by decide +kernel
theorem q72_11 : am_look 72 11 = some (.goto 4, 14, 15, 0, 0) := by decide +kernel
theorem q72_14 : am_look 72 14 = some (.iconst 0, 15, 0, 0, 0) := by decide +kernel
theorem q72_15 : am_look 72 15 = some (.ireturn, 16, 0, 0, 0) := by decide +kernel
theorem zb72 : am_zb 72 = true := by decide +kernel
theorem ml72 : am_ml 72 = 1 := by decide +kernel
theorem np72 : am_np 72 + (if am_sc 72 then 0 else 1) = 1 := by decide +kernel
theorem st72 {d : Nat} {h h1 : am_H} {r : Option am_V} (a1 : Int) (H : am_x (am_cd d) 72 (fun r2 h2 => r2 = r ∧ h2 = h1) 0 0 [some (.inl a1)] [] h) : am_cd (d + 1) 72 [.inl a1] h r h1 := by
  refine ⟨⟨by rw [ml72]; simp [am_en], by rw [np72]; rfl⟩, ?_⟩
  rw [ml72]; exact H
theorem q73_0 : am_look 73 0 = some (.iload_n 0, 1, 0, 0, 0) := by decide +kernel
theorem q73_1 : am_look 73 1 = some (.iload_n 1, 2, 1, 0, 0) := by decide +kernel
theorem q73_2 : am_look 73 2 = some (.if_icmp .lt 12, 5, 14, 0, 0) := by decide +kernel
theorem q73_5 : am_look 73 5 = some (.iload_n 0, 6, 0, 0, 0) := by decide +kernel
theorem q73_6 : am_look 73 6 = some (.iload_n 2, 7, 2, 0, 0) := by decide +kernel
theorem q73_7 : am_look 73 7 = some (.if_icmp .gt 7, 10, 14, 0, 0) := by decide +kernel
theorem q73_10 : am_look 73 10 = some (.iconst 1, 11, 0, 0, 1) := by decide +kernel
theorem q73_11 : am_look 73 11 = some (.goto 4, 14, 15, 0, 0) := by decide +kernel
theorem q73_14 : am_look 73 14 = some (.iconst 0, 15, 0, 0, 0) := by decide +kernel
theorem q73_15 : am_look 73 15 = some (.ireturn, 16, 0, 0, 0) := by decide +kernel
theorem zb73 : am_zb 73 = true := by decide +kernel
theorem ml73 : am_ml 73 = 3 := by decide +kernel
theorem np73 : am_np 73 + (if am_sc 73 then 0 else 1) = 3 := by decide +kernel
theorem st73 {d : Nat} {h h1 : am_H} {r : Option am_V} (a1 : Int) (a2 : Int) (a3 : Int) (H : am_x (am_cd d) 73 (fun r2 h2 => r2 = r ∧ h2 = h1) 0 0 [some (.inl a1), some (.inl a2), some (.inl a3)] [] h) : am_cd (d + 1) 73 [.inl a1, .inl a2, .inl a3] h r h1 := by
  refine ⟨⟨by rw [ml73]; simp [am_en], by rw [np73]; rfl⟩, ?_⟩
  rw [ml73]; exact H
theorem q74_0 : am_look 74 0 = some (.aload_n 0, 1, 0, 0, 0) := by decide +kernel
theorem q74_1 : am_look 74 1 = some (.dup, 2, 0, 0, 0) := by decide +kernel
theorem q74_2 : am_look 74 2 = some (.getfield 79, 5, 771, 3, 0) := by decide +kernel
theorem q74_5 : am_look 74 5 = some (.iconst 1, 6, 0, 0, 1) := by decide +kernel
theorem q74_6 : am_look 74 6 = some (.iadd, 7, 0, 0, 0) := by decide +kernel
theorem q74_7 : am_look 74 7 = some (.putfield 79, 10, 771, 3, 0) := by decide +kernel
theorem q74_10 : am_look 74 10 = some (.iload_n 1, 11, 1, 0, 0) := by decide +kernel
theorem q74_11 : am_look 74 11 = some (.ireturn, 12, 0, 0, 0) := by decide +kernel
theorem zb74 : am_zb 74 = false := by decide +kernel
theorem ml74 : am_ml 74 = 2 := by decide +kernel
theorem np74 : am_np 74 + (if am_sc 74 then 0 else 1) = 2 := by decide +kernel
theorem st74 {d : Nat} {h h1 : am_H} {r : Option am_V} (p0 : Nat) (a1 : Int) (H : am_x (am_cd d) 74 (fun r2 h2 => r2 = r ∧ h2 = h1) 0 0 [some (.inr (.inr p0)), some (.inl a1)] [] h) : am_cd (d + 1) 74 [.inr (.inr p0), .inl a1] h r h1 := by
  refine ⟨⟨by rw [ml74]; simp [am_en], by rw [np74]; rfl⟩, ?_⟩
  rw [ml74]; exact H
theorem q75_0 : am_look 75 0 = some (.aload_n 0, 1, 0, 0, 0) := by decide +kernel
theorem q75_1 : am_look 75 1 = some (.getfield 7, 4, 768, 0, 0) := by decide +kernel
theorem q75_4 : am_look 75 4 = some (.bipush 10, 6, 0, 0, 10) := by decide +kernel
theorem q75_6 : am_look 75 6 = some (.iconst 3, 7, 0, 0, 3) := by decide +kernel
theorem q75_7 : am_look 75 7 = some (.iload_n 1, 8, 1, 0, 0) := by decide +kernel
theorem q75_8 : am_look 75 8 = some (.imul, 9, 0, 0, 0) := by decide +kernel
theorem q75_9 : am_look 75 9 = some (.iadd, 10, 0, 0, 0) := by decide +kernel
theorem q75_10 : am_look 75 10 = some (.iconst 2, 11, 0, 0, 2) := by decide +kernel
theorem q75_11 : am_look 75 11 = some (.iadd, 12, 0, 0, 0) := by decide +kernel
theorem q75_12 : am_look 75 12 = some (.iaload, 13, 0, 0, 0) := by decide +kernel
theorem q75_13 : am_look 75 13 = some (.ireturn, 14, 0, 0, 0) := by decide +kernel
theorem zb75 : am_zb 75 = false := by decide +kernel
theorem ml75 : am_ml 75 = 2 := by decide +kernel
theorem np75 : am_np 75 + (if am_sc 75 then 0 else 1) = 2 := by decide +kernel
theorem st75 {d : Nat} {h h1 : am_H} {r : Option am_V} (p0 : Nat) (a1 : Int) (H : am_x (am_cd d) 75 (fun r2 h2 => r2 = r ∧ h2 = h1) 0 0 [some (.inr (.inr p0)), some (.inl a1)] [] h) : am_cd (d + 1) 75 [.inr (.inr p0), .inl a1] h r h1 := by
  refine ⟨⟨by rw [ml75]; simp [am_en], by rw [np75]; rfl⟩, ?_⟩
  rw [ml75]; exact H
theorem q76_0 : am_look 76 0 = some (.aload_n 0, 1, 0, 0, 0) := by decide +kernel
theorem q76_1 : am_look 76 1 = some (.getfield 7, 4, 768, 0, 0) := by decide +kernel
theorem q76_4 : am_look 76 4 = some (.bipush 46, 6, 0, 0, 46) := by decide +kernel
theorem q76_6 : am_look 76 6 = some (.bipush 12, 8, 0, 0, 12) := by decide +kernel
theorem q76_8 : am_look 76 8 = some (.iload_n 1, 9, 1, 0, 0) := by decide +kernel
theorem q76_9 : am_look 76 9 = some (.imul, 10, 0, 0, 0) := by decide +kernel
theorem q76_10 : am_look 76 10 = some (.iadd, 11, 0, 0, 0) := by decide +kernel
theorem q76_11 : am_look 76 11 = some (.iload_n 2, 12, 2, 0, 0) := by decide +kernel
theorem q76_12 : am_look 76 12 = some (.iadd, 13, 0, 0, 0) := by decide +kernel
theorem q76_13 : am_look 76 13 = some (.iaload, 14, 0, 0, 0) := by decide +kernel
theorem q76_14 : am_look 76 14 = some (.ireturn, 15, 0, 0, 0) := by decide +kernel
theorem zb76 : am_zb 76 = false := by decide +kernel
theorem ml76 : am_ml 76 = 3 := by decide +kernel
theorem np76 : am_np 76 + (if am_sc 76 then 0 else 1) = 3 := by decide +kernel
theorem st76 {d : Nat} {h h1 : am_H} {r : Option am_V} (p0 : Nat) (a1 : Int) (a2 : Int) (H : am_x (am_cd d) 76 (fun r2 h2 => r2 = r ∧ h2 = h1) 0 0 [some (.inr (.inr p0)), some (.inl a1), some (.inl a2)] [] h) : am_cd (d + 1) 76 [.inr (.inr p0), .inl a1, .inl a2] h r h1 := by
  refine ⟨⟨by rw [ml76]; simp [am_en], by rw [np76]; rfl⟩, ?_⟩
  rw [ml76]; exact H
theorem q77_0 : am_look 77 0 = some (.aload_n 0, 1, 0, 0, 0) := by decide +kernel
theorem q77_1 : am_look 77 1 = some (.getfield 87, 4, 770, 2, 0) := by decide +kernel
theorem q77_4 : am_look 77 4 = some (.bipush 6, 6, 0, 0, 6) := by decide +kernel
theorem q77_6 : am_look 77 6 = some (.if_icmp .ne 44, 9, 50, 0, 0) := by decide +kernel
theorem q77_9 : am_look 77 9 = some (.iconst 0, 10, 0, 0, 0) := by decide +kernel
theorem q77_10 : am_look 77 10 = some (.istore_n 1, 11, 1, 0, 0) := by decide +kernel
theorem q77_11 : am_look 77 11 = some (.iload_n 1, 12, 1, 0, 0) := by decide +kernel
theorem q77_12 : am_look 77 12 = some (.sipush 4100, 15, 0, 0, 4100) := by decide +kernel
theorem q77_15 : am_look 77 15 = some (.if_icmp .ge 25, 18, 40, 0, 0) := by decide +kernel
theorem q77_18 : am_look 77 18 = some (.aload_n 0, 19, 0, 0, 0) := by decide +kernel
theorem q77_19 : am_look 77 19 = some (.getfield 13, 22, 769, 1, 0) := by decide +kernel
theorem q77_22 : am_look 77 22 = some (.iload_n 1, 23, 1, 0, 0) := by decide +kernel
theorem q77_23 : am_look 77 23 = some (.aload_n 0, 24, 0, 0, 0) := by decide +kernel
theorem q77_24 : am_look 77 24 = some (.getfield 13, 27, 769, 1, 0) := by decide +kernel
theorem q77_27 : am_look 77 27 = some (.iload_n 1, 28, 1, 0, 0) := by decide +kernel
theorem q77_28 : am_look 77 28 = some (.sipush 820, 31, 0, 0, 820) := by decide +kernel
theorem q77_31 : am_look 77 31 = some (.iadd, 32, 0, 0, 0) := by decide +kernel
theorem q77_32 : am_look 77 32 = some (.iaload, 33, 0, 0, 0) := by decide +kernel
theorem q77_33 : am_look 77 33 = some (.iastore, 34, 0, 0, 0) := by decide +kernel
theorem q77_34 : am_look 77 34 = some (.iinc 1 1, 37, 1, 0, 1) := by decide +kernel
theorem q77_37 : am_look 77 37 = some (.goto (-26), 40, 11, 0, 0) := by decide +kernel
theorem q77_40 : am_look 77 40 = some (.aload_n 0, 41, 0, 0, 0) := by decide +kernel
theorem q77_41 : am_look 77 41 = some (.dup, 42, 0, 0, 0) := by decide +kernel
theorem q77_42 : am_look 77 42 = some (.getfield 87, 45, 770, 2, 0) := by decide +kernel
theorem q77_45 : am_look 77 45 = some (.iconst 1, 46, 0, 0, 1) := by decide +kernel
theorem q77_46 : am_look 77 46 = some (.isub, 47, 0, 0, 0) := by decide +kernel
theorem q77_47 : am_look 77 47 = some (.putfield 87, 50, 770, 2, 0) := by decide +kernel
theorem q77_50 : am_look 77 50 = some (.iconst 0, 51, 0, 0, 0) := by decide +kernel
theorem q77_51 : am_look 77 51 = some (.istore_n 1, 52, 1, 0, 0) := by decide +kernel
theorem q77_52 : am_look 77 52 = some (.iload_n 1, 53, 1, 0, 0) := by decide +kernel
theorem q77_53 : am_look 77 53 = some (.sipush 820, 56, 0, 0, 820) := by decide +kernel
theorem q77_56 : am_look 77 56 = some (.if_icmp .ge 30, 59, 86, 0, 0) := by decide +kernel
theorem q77_59 : am_look 77 59 = some (.aload_n 0, 60, 0, 0, 0) := by decide +kernel
theorem q77_60 : am_look 77 60 = some (.getfield 13, 63, 769, 1, 0) := by decide +kernel
theorem q77_63 : am_look 77 63 = some (.sipush 820, 66, 0, 0, 820) := by decide +kernel
theorem q77_66 : am_look 77 66 = some (.aload_n 0, 67, 0, 0, 0) := by decide +kernel
theorem q77_67 : am_look 77 67 = some (.getfield 87, 70, 770, 2, 0) := by decide +kernel
theorem q77_70 : am_look 77 70 = some (.imul, 71, 0, 0, 0) := by decide +kernel
theorem q77_71 : am_look 77 71 = some (.iload_n 1, 72, 1, 0, 0) := by decide +kernel
theorem q77_72 : am_look 77 72 = some (.iadd, 73, 0, 0, 0) := by decide +kernel
theorem q77_73 : am_look 77 73 = some (.aload_n 0, 74, 0, 0, 0) := by decide +kernel
theorem q77_74 : am_look 77 74 = some (.getfield 7, 77, 768, 0, 0) := by decide +kernel
theorem q77_77 : am_look 77 77 = some (.iload_n 1, 78, 1, 0, 0) := by decide +kernel
theorem q77_78 : am_look 77 78 = some (.iaload, 79, 0, 0, 0) := by decide +kernel
theorem q77_79 : am_look 77 79 = some (.iastore, 80, 0, 0, 0) := by decide +kernel
theorem q77_80 : am_look 77 80 = some (.iinc 1 1, 83, 1, 0, 1) := by decide +kernel
theorem q77_83 : am_look 77 83 = some (.goto (-31), 86, 52, 0, 0) := by decide +kernel
theorem q77_86 : am_look 77 86 = some (.aload_n 0, 87, 0, 0, 0) := by decide +kernel
theorem q77_87 : am_look 77 87 = some (.dup, 88, 0, 0, 0) := by decide +kernel
theorem q77_88 : am_look 77 88 = some (.getfield 87, 91, 770, 2, 0) := by decide +kernel
theorem q77_91 : am_look 77 91 = some (.iconst 1, 92, 0, 0, 1) := by decide +kernel
theorem q77_92 : am_look 77 92 = some (.iadd, 93, 0, 0, 0) := by decide +kernel
theorem q77_93 : am_look 77 93 = some (.putfield 87, 96, 770, 2, 0) := by decide +kernel
theorem q77_96 : am_look 77 96 = some (.return_, 97, 0, 0, 0) := by decide +kernel
theorem zb77 : am_zb 77 = false := by decide +kernel
theorem ml77 : am_ml 77 = 2 := by decide +kernel
theorem np77 : am_np 77 + (if am_sc 77 then 0 else 1) = 1 := by decide +kernel
theorem st77 {d : Nat} {h h1 : am_H} {r : Option am_V} (p0 : Nat) (H : am_x (am_cd d) 77 (fun r2 h2 => r2 = r ∧ h2 = h1) 0 0 [some (.inr (.inr p0)), none] [] h) : am_cd (d + 1) 77 [.inr (.inr p0)] h r h1 := by
  refine ⟨⟨by rw [ml77]; simp [am_en], by rw [np77]; rfl⟩, ?_⟩
  rw [ml77]; exact H
theorem q78_0 : am_look 78 0 = some (.aload_n 0, 1, 0, 0, 0) := by decide +kernel
theorem q78_1 : am_look 78 1 = some (.getfield 7, 4, 768, 0, 0) := by decide +kernel
theorem q78_4 : am_look 78 4 = some (.sipush 190, 7, 0, 0, 190) := by decide +kernel
theorem q78_7 : am_look 78 7 = some (.iconst 3, 8, 0, 0, 3) := by decide +kernel
theorem q78_8 : am_look 78 8 = some (.iload_n 1, 9, 1, 0, 0) := by decide +kernel
theorem q78_9 : am_look 78 9 = some (.imul, 10, 0, 0, 0) := by decide +kernel
theorem q78_10 : am_look 78 10 = some (.iadd, 11, 0, 0, 0) := by decide +kernel
theorem q78_11 : am_look 78 11 = some (.iconst 2, 12, 0, 0, 2) := by decide +kernel
theorem q78_12 : am_look 78 12 = some (.iadd, 13, 0, 0, 0) := by decide +kernel
theorem q78_13 : am_look 78 13 = some (.iaload, 14, 0, 0, 0) := by decide +kernel
theorem q78_14 : am_look 78 14 = some (.istore_n 2, 15, 2, 0, 0) := by decide +kernel
theorem q78_15 : am_look 78 15 = some (.aload_n 0, 16, 0, 0, 0) := by decide +kernel
theorem q78_16 : am_look 78 16 = some (.getfield 7, 19, 768, 0, 0) := by decide +kernel
theorem q78_19 : am_look 78 19 = some (.sipush 190, 22, 0, 0, 190) := by decide +kernel
theorem q78_22 : am_look 78 22 = some (.iconst 3, 23, 0, 0, 3) := by decide +kernel
theorem q78_23 : am_look 78 23 = some (.iload_n 1, 24, 1, 0, 0) := by decide +kernel
theorem q78_24 : am_look 78 24 = some (.imul, 25, 0, 0, 0) := by decide +kernel
theorem q78_25 : am_look 78 25 = some (.iadd, 26, 0, 0, 0) := by decide +kernel
theorem q78_26 : am_look 78 26 = some (.iconst 1, 27, 0, 0, 1) := by decide +kernel
theorem q78_27 : am_look 78 27 = some (.iadd, 28, 0, 0, 0) := by decide +kernel
theorem q78_28 : am_look 78 28 = some (.iaload, 29, 0, 0, 0) := by decide +kernel
theorem q78_29 : am_look 78 29 = some (.tableswitch 39 0 2 #[27, 29, 33], 56, 0, 0, 0) := by decide +kernel
theorem q78_56 : am_look 78 56 = some (.iload_n 2, 57, 2, 0, 0) := by decide +kernel
theorem q78_57 : am_look 78 57 = some (.ireturn, 58, 0, 0, 0) := by decide +kernel
theorem q78_58 : am_look 78 58 = some (.iconst 2, 59, 0, 0, 2) := by decide +kernel
theorem q78_59 : am_look 78 59 = some (.iload_n 2, 60, 2, 0, 0) := by decide +kernel
theorem q78_60 : am_look 78 60 = some (.imul, 61, 0, 0, 0) := by decide +kernel
theorem q78_61 : am_look 78 61 = some (.ireturn, 62, 0, 0, 0) := by decide +kernel
theorem q78_62 : am_look 78 62 = some (.iload_n 2, 63, 2, 0, 0) := by decide +kernel
theorem q78_63 : am_look 78 63 = some (.iconst 2, 64, 0, 0, 2) := by decide +kernel
theorem q78_64 : am_look 78 64 = some (.idiv, 65, 0, 0, 0) := by decide +kernel
theorem q78_65 : am_look 78 65 = some (.iconst 1, 66, 0, 0, 1) := by decide +kernel
theorem q78_66 : am_look 78 66 = some (.iadd, 67, 0, 0, 0) := by decide +kernel
theorem q78_67 : am_look 78 67 = some (.ireturn, 68, 0, 0, 0) := by decide +kernel
theorem q78_68 : am_look 78 68 = some (.iconst 4, 69, 0, 0, 4) := by decide +kernel
theorem q78_69 : am_look 78 69 = some (.iload_n 2, 70, 2, 0, 0) := by decide +kernel
theorem q78_70 : am_look 78 70 = some (.imul, 71, 0, 0, 0) := by decide +kernel
theorem q78_71 : am_look 78 71 = some (.iconst 1, 72, 0, 0, 1) := by decide +kernel
theorem q78_72 : am_look 78 72 = some (.isub, 73, 0, 0, 0) := by decide +kernel
theorem q78_73 : am_look 78 73 = some (.ireturn, 74, 0, 0, 0) := by decide +kernel
theorem zb78 : am_zb 78 = false := by decide +kernel
theorem ml78 : am_ml 78 = 3 := by decide +kernel
theorem np78 : am_np 78 + (if am_sc 78 then 0 else 1) = 2 := by decide +kernel
theorem st78 {d : Nat} {h h1 : am_H} {r : Option am_V} (p0 : Nat) (a1 : Int) (H : am_x (am_cd d) 78 (fun r2 h2 => r2 = r ∧ h2 = h1) 0 0 [some (.inr (.inr p0)), some (.inl a1), none] [] h) : am_cd (d + 1) 78 [.inr (.inr p0), .inl a1] h r h1 := by
  refine ⟨⟨by rw [ml78]; simp [am_en], by rw [np78]; rfl⟩, ?_⟩
  rw [ml78]; exact H
theorem q79_0 : am_look 79 0 = some (.aload_n 0, 1, 0, 0, 0) := by decide +kernel
theorem q79_1 : am_look 79 1 = some (.getfield 7, 4, 768, 0, 0) := by decide +kernel
theorem q79_4 : am_look 79 4 = some (.sipush 250, 7, 0, 0, 250) := by decide +kernel
theorem q79_7 : am_look 79 7 = some (.bipush 9, 9, 0, 0, 9) := by decide +kernel
theorem q79_9 : am_look 79 9 = some (.iload_n 1, 10, 1, 0, 0) := by decide +kernel
theorem q79_10 : am_look 79 10 = some (.imul, 11, 0, 0, 0) := by decide +kernel
theorem q79_11 : am_look 79 11 = some (.iadd, 12, 0, 0, 0) := by decide +kernel
theorem q79_12 : am_look 79 12 = some (.iconst 1, 13, 0, 0, 1) := by decide +kernel
theorem q79_13 : am_look 79 13 = some (.iadd, 14, 0, 0, 0) := by decide +kernel
theorem q79_14 : am_look 79 14 = some (.iload_n 2, 15, 2, 0, 0) := by decide +kernel
theorem q79_15 : am_look 79 15 = some (.iadd, 16, 0, 0, 0) := by decide +kernel
theorem q79_16 : am_look 79 16 = some (.iaload, 17, 0, 0, 0) := by decide +kernel
theorem q79_17 : am_look 79 17 = some (.ireturn, 18, 0, 0, 0) := by decide +kernel
theorem zb79 : am_zb 79 = false := by decide +kernel
theorem ml79 : am_ml 79 = 3 := by decide +kernel
theorem np79 : am_np 79 + (if am_sc 79 then 0 else 1) = 3 := by decide +kernel
theorem st79 {d : Nat} {h h1 : am_H} {r : Option am_V} (p0 : Nat) (a1 : Int) (a2 : Int) (H : am_x (am_cd d) 79 (fun r2 h2 => r2 = r ∧ h2 = h1) 0 0 [some (.inr (.inr p0)), some (.inl a1), some (.inl a2)] [] h) : am_cd (d + 1) 79 [.inr (.inr p0), .inl a1, .inl a2] h r h1 := by
  refine ⟨⟨by rw [ml79]; simp [am_en], by rw [np79]; rfl⟩, ?_⟩
  rw [ml79]; exact H
theorem q80_0 : am_look 80 0 = some (.aload_n 0, 1, 0, 0, 0) := by decide +kernel
theorem q80_1 : am_look 80 1 = some (.getfield 7, 4, 768, 0, 0) := by decide +kernel
theorem q80_4 : am_look 80 4 = some (.sipush 250, 7, 0, 0, 250) := by decide +kernel
theorem q80_7 : am_look 80 7 = some (.bipush 9, 9, 0, 0, 9) := by decide +kernel
theorem q80_9 : am_look 80 9 = some (.iload_n 1, 10, 1, 0, 0) := by decide +kernel
theorem q80_10 : am_look 80 10 = some (.imul, 11, 0, 0, 0) := by decide +kernel
theorem q80_11 : am_look 80 11 = some (.iadd, 12, 0, 0, 0) := by decide +kernel
theorem q80_12 : am_look 80 12 = some (.iaload, 13, 0, 0, 0) := by decide +kernel
theorem q80_13 : am_look 80 13 = some (.ireturn, 14, 0, 0, 0) := by decide +kernel
theorem zb80 : am_zb 80 = false := by decide +kernel
theorem ml80 : am_ml 80 = 2 := by decide +kernel
theorem np80 : am_np 80 + (if am_sc 80 then 0 else 1) = 2 := by decide +kernel
theorem st80 {d : Nat} {h h1 : am_H} {r : Option am_V} (p0 : Nat) (a1 : Int) (H : am_x (am_cd d) 80 (fun r2 h2 => r2 = r ∧ h2 = h1) 0 0 [some (.inr (.inr p0)), some (.inl a1)] [] h) : am_cd (d + 1) 80 [.inr (.inr p0), .inl a1] h r h1 := by
  refine ⟨⟨by rw [ml80]; simp [am_en], by rw [np80]; rfl⟩, ?_⟩
  rw [ml80]; exact H
theorem q81_0 : am_look 81 0 = some (.aload_n 0, 1, 0, 0, 0) := by decide +kernel
theorem q81_1 : am_look 81 1 = some (.getfield 151, 4, 783, 15, 0) := by decide +kernel
theorem q81_4 : am_look 81 4 = some (.aload_n 0, 5, 0, 0, 0) := by decide +kernel
theorem q81_5 : am_look 81 5 = some (.getfield 148, 8, 782, 14, 0) := by decide +kernel
theorem q81_8 : am_look 81 8 = some (.if_icmp .ge 16, 11, 24, 0, 0) := by decide +kernel
theorem q81_11 : am_look 81 11 = some (.aload_n 0, 12, 0, 0, 0) := by decide +kernel
theorem q81_12 : am_look 81 12 = some (.getfield 28, 15, 776, 8, 0) := by decide +kernel
theorem q81_15 : am_look 81 15 = some (.aload_n 0, 16, 0, 0, 0) := by decide +kernel
theorem q81_16 : am_look 81 16 = some (.getfield 151, 19, 783, 15, 0) := by decide +kernel
theorem q81_19 : am_look 81 19 = some (.iaload, 20, 0, 0, 0) := by decide +kernel
theorem q81_20 : am_look 81 20 = some (.iload_n 1, 21, 1, 0, 0) := by decide +kernel
theorem q81_21 : am_look 81 21 = some (.if_icmp .eq 5, 24, 26, 0, 0) := by decide +kernel
theorem q81_24 : am_look 81 24 = some (.iconst 0, 25, 0, 0, 0) := by decide +kernel
theorem q81_25 : am_look 81 25 = some (.ireturn, 26, 0, 0, 0) := by decide +kernel
theorem q81_26 : am_look 81 26 = some (.aload_n 0, 27, 0, 0, 0) := by decide +kernel
theorem q81_27 : am_look 81 27 = some (.dup, 28, 0, 0, 0) := by decide +kernel
theorem q81_28 : am_look 81 28 = some (.getfield 151, 31, 783, 15, 0) := by decide +kernel
theorem q81_31 : am_look 81 31 = some (.iconst 1, 32, 0, 0, 1) := by decide +kernel
theorem q81_32 : am_look 81 32 = some (.iadd, 33, 0, 0, 0) := by decide +kernel
theorem q81_33 : am_look 81 33 = some (.putfield 151, 36, 783, 15, 0) := by decide +kernel
theorem q81_36 : am_look 81 36 = some (.iconst 1, 37, 0, 0, 1) := by decide +kernel
theorem q81_37 : am_look 81 37 = some (.ireturn, 38, 0, 0, 0) := by decide +kernel
theorem zb81 : am_zb 81 = true := by decide +kernel
theorem ml81 : am_ml 81 = 2 := by decide +kernel
theorem np81 : am_np 81 + (if am_sc 81 then 0 else 1) = 2 := by decide +kernel
theorem st81 {d : Nat} {h h1 : am_H} {r : Option am_V} (p0 : Nat) (a1 : Int) (H : am_x (am_cd d) 81 (fun r2 h2 => r2 = r ∧ h2 = h1) 0 0 [some (.inr (.inr p0)), some (.inl a1)] [] h) : am_cd (d + 1) 81 [.inr (.inr p0), .inl a1] h r h1 := by
  refine ⟨⟨by rw [ml81]; simp [am_en], by rw [np81]; rfl⟩, ?_⟩
  rw [ml81]; exact H
theorem q82_0 : am_look 82 0 = some (.iload_n 0, 1, 0, 0, 0) := by decide +kernel
theorem q82_1 : am_look 82 1 = some (.tableswitch 73 0 6 #[43, 45, 47, 51, 55, 61, 67], 44, 0, 0, 0) := by decide +kernel
theorem q82_44 : am_look 82 44 = some (.iload_n 1, 45, 1, 0, 0) := by decide +kernel
theorem q82_45 : am_look 82 45 = some (.ireturn, 46, 0, 0, 0) := by decide +kernel
theorem q82_46 : am_look 82 46 = some (.iload_n 2, 47, 2, 0, 0) := by decide +kernel
theorem q82_47 : am_look 82 47 = some (.ireturn, 48, 0, 0, 0) := by decide +kernel
theorem q82_48 : am_look 82 48 = some (.iload_n 1, 49, 1, 0, 0) := by decide +kernel
theorem q82_49 : am_look 82 49 = some (.iload_n 2, 50, 2, 0, 0) := by decide +kernel
theorem q82_50 : am_look 82 50 = some (.iadd, 51, 0, 0, 0) := by decide +kernel
theorem q82_51 : am_look 82 51 = some (.ireturn, 52, 0, 0, 0) := by decide +kernel
theorem q82_52 : am_look 82 52 = some (.iload_n 1, 53, 1, 0, 0) := by decide +kernel
theorem q82_53 : am_look 82 53 = some (.iload_n 2, 54, 2, 0, 0) := by decide +kernel
theorem q82_54 : am_look 82 54 = some (.isub, 55, 0, 0, 0) := by decide +kernel
theorem q82_55 : am_look 82 55 = some (.ireturn, 56, 0, 0, 0) := by decide +kernel
theorem q82_56 : am_look 82 56 = some (.iconst 2, 57, 0, 0, 2) := by decide +kernel
theorem q82_57 : am_look 82 57 = some (.iload_n 1, 58, 1, 0, 0) := by decide +kernel
theorem q82_58 : am_look 82 58 = some (.imul, 59, 0, 0, 0) := by decide +kernel
theorem q82_59 : am_look 82 59 = some (.iload_n 2, 60, 2, 0, 0) := by decide +kernel
theorem q82_60 : am_look 82 60 = some (.iadd, 61, 0, 0, 0) := by decide +kernel
theorem q82_61 : am_look 82 61 = some (.ireturn, 62, 0, 0, 0) := by decide +kernel
theorem q82_62 : am_look 82 62 = some (.iload_n 1, 63, 1, 0, 0) := by decide +kernel
theorem q82_63 : am_look 82 63 = some (.iconst 2, 64, 0, 0, 2) := by decide +kernel
theorem q82_64 : am_look 82 64 = some (.iload_n 2, 65, 2, 0, 0) := by decide +kernel
theorem q82_65 : am_look 82 65 = some (.imul, 66, 0, 0, 0) := by decide +kernel
theorem q82_66 : am_look 82 66 = some (.iadd, 67, 0, 0, 0) := by decide +kernel
theorem q82_67 : am_look 82 67 = some (.ireturn, 68, 0, 0, 0) := by decide +kernel
theorem q82_68 : am_look 82 68 = some (.iconst 2, 69, 0, 0, 2) := by decide +kernel
theorem q82_69 : am_look 82 69 = some (.iload_n 1, 70, 1, 0, 0) := by decide +kernel
theorem q82_70 : am_look 82 70 = some (.imul, 71, 0, 0, 0) := by decide +kernel
theorem q82_71 : am_look 82 71 = some (.iload_n 2, 72, 2, 0, 0) := by decide +kernel
theorem q82_72 : am_look 82 72 = some (.isub, 73, 0, 0, 0) := by decide +kernel
theorem q82_73 : am_look 82 73 = some (.ireturn, 74, 0, 0, 0) := by decide +kernel
theorem q82_74 : am_look 82 74 = some (.iload_n 1, 75, 1, 0, 0) := by decide +kernel
theorem q82_75 : am_look 82 75 = some (.iconst 2, 76, 0, 0, 2) := by decide +kernel
theorem q82_76 : am_look 82 76 = some (.iload_n 2, 77, 2, 0, 0) := by decide +kernel
theorem q82_77 : am_look 82 77 = some (.imul, 78, 0, 0, 0) := by decide +kernel
theorem q82_78 : am_look 82 78 = some (.isub, 79, 0, 0, 0) := by decide +kernel
theorem q82_79 : am_look 82 79 = some (.ireturn, 80, 0, 0, 0) := by decide +kernel
theorem zb82 : am_zb 82 = false := by decide +kernel
theorem ml82 : am_ml 82 = 3 := by decide +kernel
theorem np82 : am_np 82 + (if am_sc 82 then 0 else 1) = 3 := by decide +kernel
theorem st82 {d : Nat} {h h1 : am_H} {r : Option am_V} (a1 : Int) (a2 : Int) (a3 : Int) (H : am_x (am_cd d) 82 (fun r2 h2 => r2 = r ∧ h2 = h1) 0 0 [some (.inl a1), some (.inl a2), some (.inl a3)] [] h) : am_cd (d + 1) 82 [.inl a1, .inl a2, .inl a3] h r h1 := by
  refine ⟨⟨by rw [ml82]; simp [am_en], by rw [np82]; rfl⟩, ?_⟩
  rw [ml82]; exact H
theorem q83_0 : am_look 83 0 = some (.aload_n 0, 1, 0, 0, 0) := by decide +kernel
theorem q83_1 : am_look 83 1 = some (.getfield 192, 4, 789, 21, 0) := by decide +kernel
theorem q83_4 : am_look 83 4 = some (.ifCond .lt 13, 7, 17, 0, 0) := by decide +kernel
theorem q83_7 : am_look 83 7 = some (.iload 4, 9, 4, 0, 0) := by decide +kernel
theorem q83_9 : am_look 83 9 = some (.aload_n 0, 10, 0, 0, 0) := by decide +kernel
theorem q83_10 : am_look 83 10 = some (.getfield 192, 13, 789, 21, 0) := by decide +kernel
theorem q83_13 : am_look 83 13 = some (.if_icmp .lt 4, 16, 17, 0, 0) := by decide +kernel
theorem q83_16 : am_look 83 16 = some (.return_, 17, 0, 0, 0) := by decide +kernel
theorem q83_17 : am_look 83 17 = some (.iload_n 1, 18, 1, 0, 0) := by decide +kernel
theorem q83_18 : am_look 83 18 = some (.aload_n 0, 19, 0, 0, 0) := by decide +kernel
theorem q83_19 : am_look 83 19 = some (.getfield 7, 22, 768, 0, 0) := by decide +kernel
theorem q83_22 : am_look 83 22 = some (.iconst 0, 23, 0, 0, 0) := by decide +kernel
theorem q83_23 : am_look 83 23 = some (.iaload, 24, 0, 0, 0) := by decide +kernel
theorem q83_24 : am_look 83 24 = some (.if_icmp .ne 39, 27, 63, 0, 0) := by decide +kernel
theorem q83_27 : am_look 83 27 = some (.aload_n 0, 28, 0, 0, 0) := by decide +kernel
theorem q83_28 : am_look 83 28 = some (.iload 4, 30, 4, 0, 0) := by decide +kernel
theorem q83_30 : am_look 83 30 = some (.putfield 192, 33, 789, 21, 0) := by decide +kernel
theorem q83_33 : am_look 83 33 = some (.iconst 0, 34, 0, 0, 0) := by decide +kernel
theorem q83_34 : am_look 83 34 = some (.istore 5, 36, 5, 0, 0) := by decide +kernel
theorem q83_36 : am_look 83 36 = some (.iload 5, 38, 5, 0, 0) := by decide +kernel
theorem q83_38 : am_look 83 38 = some (.iload_n 1, 39, 1, 0, 0) := by decide +kernel
theorem q83_39 : am_look 83 39 = some (.if_icmp .ge 23, 42, 62, 0, 0) := by decide +kernel
theorem q83_42 : am_look 83 42 = some (.aload_n 0, 43, 0, 0, 0) := by decide +kernel
theorem q83_43 : am_look 83 43 = some (.getfield 55, 46, 788, 20, 0) := by decide +kernel
theorem q83_46 : am_look 83 46 = some (.iload 5, 48, 5, 0, 0) := by decide +kernel
theorem q83_48 : am_look 83 48 = some (.aload_n 0, 49, 0, 0, 0) := by decide +kernel
theorem q83_49 : am_look 83 49 = some (.getfield 52, 52, 787, 19, 0) := by decide +kernel
theorem q83_52 : am_look 83 52 = some (.iload 5, 54, 5, 0, 0) := by decide +kernel
theorem q83_54 : am_look 83 54 = some (.iaload, 55, 0, 0, 0) := by decide +kernel
theorem q83_55 : am_look 83 55 = some (.iastore, 56, 0, 0, 0) := by decide +kernel
theorem q83_56 : am_look 83 56 = some (.iinc 5 1, 59, 5, 0, 1) := by decide +kernel
theorem q83_59 : am_look 83 59 = some (.goto (-23), 62, 36, 0, 0) := by decide +kernel
theorem q83_62 : am_look 83 62 = some (.return_, 63, 0, 0, 0) := by decide +kernel
theorem q83_63 : am_look 83 63 = some (.iconst 0, 64, 0, 0, 0) := by decide +kernel
theorem q83_64 : am_look 83 64 = some (.istore 5, 66, 5, 0, 0) := by decide +kernel
theorem q83_66 : am_look 83 66 = some (.iload 5, 68, 5, 0, 0) := by decide +kernel
theorem q83_68 : am_look 83 68 = some (.iload_n 2, 69, 2, 0, 0) := by decide +kernel
theorem q83_69 : am_look 83 69 = some (.if_icmp .gt 110, 72, 179, 0, 0) := by decide +kernel
theorem q83_72 : am_look 83 72 = some (.iload 5, 74, 5, 0, 0) := by decide +kernel
theorem q83_74 : am_look 83 74 = some (.iload_n 3, 75, 3, 0, 0) := by decide +kernel
theorem q83_75 : am_look 83 75 = some (.if_icmp .ge 104, 78, 179, 0, 0) := by decide +kernel
theorem q83_78 : am_look 83 78 = some (.iload 5, 80, 5, 0, 0) := by decide +kernel
theorem q83_80 : am_look 83 80 = some (.iload_n 2, 81, 2, 0, 0) := by decide +kernel
theorem q83_81 : am_look 83 81 = some (.if_icmp .ne 7, 84, 88, 0, 0) := by decide +kernel
theorem q83_84 : am_look 83 84 = some (.iconst 5, 85, 0, 0, 5) := by decide +kernel
theorem q83_85 : am_look 83 85 = some (.goto 4, 88, 89, 0, 0) := by decide +kernel
theorem q83_88 : am_look 83 88 = some (.iconst 0, 89, 0, 0, 0) := by decide +kernel
theorem q83_89 : am_look 83 89 = some (.istore 6, 91, 6, 0, 0) := by decide +kernel
theorem q83_91 : am_look 83 91 = some (.iconst 0, 92, 0, 0, 0) := by decide +kernel
theorem q83_92 : am_look 83 92 = some (.istore 7, 94, 7, 0, 0) := by decide +kernel
theorem q83_94 : am_look 83 94 = some (.iload 7, 96, 7, 0, 0) := by decide +kernel
theorem q83_96 : am_look 83 96 = some (.iload_n 1, 97, 1, 0, 0) := by decide +kernel
theorem q83_97 : am_look 83 97 = some (.if_icmp .ge 42, 100, 139, 0, 0) := by decide +kernel
theorem q83_100 : am_look 83 100 = some (.iload 6, 102, 6, 0, 0) := by decide +kernel
theorem q83_102 : am_look 83 102 = some (.aload_n 0, 103, 0, 0, 0) := by decide +kernel
theorem q83_103 : am_look 83 103 = some (.getfield 52, 106, 787, 19, 0) := by decide +kernel
theorem q83_106 : am_look 83 106 = some (.iload 7, 108, 7, 0, 0) := by decide +kernel
theorem q83_108 : am_look 83 108 = some (.iaload, 109, 0, 0, 0) := by decide +kernel
theorem q83_109 : am_look 83 109 = some (.iload 5, 111, 5, 0, 0) := by decide +kernel
theorem q83_111 : am_look 83 111 = some (.if_icmp .ne 18, 114, 129, 0, 0) := by decide +kernel
theorem q83_114 : am_look 83 114 = some (.aload_n 0, 115, 0, 0, 0) := by decide +kernel
theorem q83_115 : am_look 83 115 = some (.getfield 46, 118, 785, 17, 0) := by decide +kernel
theorem q83_118 : am_look 83 118 = some (.bipush 12, 120, 0, 0, 12) := by decide +kernel
theorem q83_120 : am_look 83 120 = some (.iload 7, 122, 7, 0, 0) := by decide +kernel
theorem q83_122 : am_look 83 122 = some (.imul, 123, 0, 0, 0) := by decide +kernel
theorem q83_123 : am_look 83 123 = some (.iload_n 1, 124, 1, 0, 0) := by decide +kernel
theorem q83_124 : am_look 83 124 = some (.iadd, 125, 0, 0, 0) := by decide +kernel
theorem q83_125 : am_look 83 125 = some (.iaload, 126, 0, 0, 0) := by decide +kernel
theorem q83_126 : am_look 83 126 = some (.goto 4, 129, 130, 0, 0) := by decide +kernel
theorem q83_129 : am_look 83 129 = some (.iconst 0, 130, 0, 0, 0) := by decide +kernel
theorem q83_130 : am_look 83 130 = some (.iadd, 131, 0, 0, 0) := by decide +kernel
theorem q83_131 : am_look 83 131 = some (.istore 6, 133, 6, 0, 0) := by decide +kernel
theorem q83_133 : am_look 83 133 = some (.iinc 7 1, 136, 7, 0, 1) := by decide +kernel
theorem q83_136 : am_look 83 136 = some (.goto (-42), 139, 94, 0, 0) := by decide +kernel
theorem q83_139 : am_look 83 139 = some (.aload_n 0, 140, 0, 0, 0) := by decide +kernel
theorem q83_140 : am_look 83 140 = some (.getfield 52, 143, 787, 19, 0) := by decide +kernel
theorem q83_143 : am_look 83 143 = some (.iload_n 1, 144, 1, 0, 0) := by decide +kernel
theorem q83_144 : am_look 83 144 = some (.iload 5, 146, 5, 0, 0) := by decide +kernel
theorem q83_146 : am_look 83 146 = some (.iastore, 147, 0, 0, 0) := by decide +kernel
theorem q83_147 : am_look 83 147 = some (.aload_n 0, 148, 0, 0, 0) := by decide +kernel
theorem q83_148 : am_look 83 148 = some (.iload_n 1, 149, 1, 0, 0) := by decide +kernel
theorem q83_149 : am_look 83 149 = some (.iconst 1, 150, 0, 0, 1) := by decide +kernel
theorem q83_150 : am_look 83 150 = some (.iadd, 151, 0, 0, 0) := by decide +kernel
theorem q83_151 : am_look 83 151 = some (.iload 5, 153, 5, 0, 0) := by decide +kernel
theorem q83_153 : am_look 83 153 = some (.iload_n 2, 154, 2, 0, 0) := by decide +kernel
theorem q83_154 : am_look 83 154 = some (.if_icmp .ne 9, 157, 163, 0, 0) := by decide +kernel
theorem q83_157 : am_look 83 157 = some (.iload_n 2, 158, 2, 0, 0) := by decide +kernel
theorem q83_158 : am_look 83 158 = some (.iconst 1, 159, 0, 0, 1) := by decide +kernel
theorem q83_159 : am_look 83 159 = some (.iadd, 160, 0, 0, 0) := by decide +kernel
theorem q83_160 : am_look 83 160 = some (.goto 4, 163, 164, 0, 0) := by decide +kernel
theorem q83_163 : am_look 83 163 = some (.iload_n 2, 164, 2, 0, 0) := by decide +kernel
theorem q83_164 : am_look 83 164 = some (.iload_n 3, 165, 3, 0, 0) := by decide +kernel
theorem q83_165 : am_look 83 165 = some (.iload 4, 167, 4, 0, 0) := by decide +kernel
theorem q83_167 : am_look 83 167 = some (.iload 6, 169, 6, 0, 0) := by decide +kernel
theorem q83_169 : am_look 83 169 = some (.iadd, 170, 0, 0, 0) := by decide +kernel
theorem q83_170 : am_look 83 170 = some (.invokevirtual 195, 173, 83, 5, 12) := by decide +kernel
theorem q83_173 : am_look 83 173 = some (.iinc 5 1, 176, 5, 0, 1) := by decide +kernel
theorem q83_176 : am_look 83 176 = some (.goto (-110), 179, 66, 0, 0) := by decide +kernel
theorem q83_179 : am_look 83 179 = some (.return_, 180, 0, 0, 0) := by decide +kernel
theorem zb83 : am_zb 83 = false := by decide +kernel
theorem ml83 : am_ml 83 = 8 := by decide +kernel
theorem np83 : am_np 83 + (if am_sc 83 then 0 else 1) = 5 := by decide +kernel
theorem st83 {d : Nat} {h h1 : am_H} {r : Option am_V} (p0 : Nat) (a1 : Int) (a2 : Int) (a3 : Int) (a4 : Int) (H : am_x (am_cd d) 83 (fun r2 h2 => r2 = r ∧ h2 = h1) 0 0 [some (.inr (.inr p0)), some (.inl a1), some (.inl a2), some (.inl a3), some (.inl a4), none, none, none] [] h) : am_cd (d + 1) 83 [.inr (.inr p0), .inl a1, .inl a2, .inl a3, .inl a4] h r h1 := by
  refine ⟨⟨by rw [ml83]; simp [am_en], by rw [np83]; rfl⟩, ?_⟩
  rw [ml83]; exact H
theorem q84_0 : am_look 84 0 = some (.iload_n 2, 1, 2, 0, 0) := by decide +kernel
theorem q84_1 : am_look 84 1 = some (.ifCond .ne 75, 4, 76, 0, 0) := by decide +kernel
theorem q84_4 : am_look 84 4 = some (.iload 4, 6, 4, 0, 0) := by decide +kernel
theorem q84_6 : am_look 84 6 = some (.aload_n 0, 7, 0, 0, 0) := by decide +kernel
theorem q84_7 : am_look 84 7 = some (.getfield 58, 10, 790, 22, 0) := by decide +kernel
theorem q84_10 : am_look 84 10 = some (.bipush 12, 12, 0, 0, 12) := by decide +kernel
theorem q84_12 : am_look 84 12 = some (.iload_n 1, 13, 1, 0, 0) := by decide +kernel
theorem q84_13 : am_look 84 13 = some (.imul, 14, 0, 0, 0) := by decide +kernel
theorem q84_14 : am_look 84 14 = some (.aload_n 0, 15, 0, 0, 0) := by decide +kernel
theorem q84_15 : am_look 84 15 = some (.getfield 203, 18, 794, 26, 0) := by decide +kernel
theorem q84_18 : am_look 84 18 = some (.iadd, 19, 0, 0, 0) := by decide +kernel
theorem q84_19 : am_look 84 19 = some (.iaload, 20, 0, 0, 0) := by decide +kernel
theorem q84_20 : am_look 84 20 = some (.iadd, 21, 0, 0, 0) := by decide +kernel
theorem q84_21 : am_look 84 21 = some (.istore 5, 23, 5, 0, 0) := by decide +kernel
theorem q84_23 : am_look 84 23 = some (.aload_n 0, 24, 0, 0, 0) := by decide +kernel
theorem q84_24 : am_look 84 24 = some (.getfield 206, 27, 793, 25, 0) := by decide +kernel
theorem q84_27 : am_look 84 27 = some (.ifCond .lt 13, 30, 40, 0, 0) := by decide +kernel
theorem q84_30 : am_look 84 30 = some (.iload 5, 32, 5, 0, 0) := by decide +kernel
theorem q84_32 : am_look 84 32 = some (.aload_n 0, 33, 0, 0, 0) := by decide +kernel
theorem q84_33 : am_look 84 33 = some (.getfield 206, 36, 793, 25, 0) := by decide +kernel
theorem q84_36 : am_look 84 36 = some (.if_icmp .lt 4, 39, 40, 0, 0) := by decide +kernel
theorem q84_39 : am_look 84 39 = some (.return_, 40, 0, 0, 0) := by decide +kernel
theorem q84_40 : am_look 84 40 = some (.aload_n 0, 41, 0, 0, 0) := by decide +kernel
theorem q84_41 : am_look 84 41 = some (.iload 5, 43, 5, 0, 0) := by decide +kernel
theorem q84_43 : am_look 84 43 = some (.putfield 206, 46, 793, 25, 0) := by decide +kernel
theorem q84_46 : am_look 84 46 = some (.iconst 0, 47, 0, 0, 0) := by decide +kernel
theorem q84_47 : am_look 84 47 = some (.istore 6, 49, 6, 0, 0) := by decide +kernel
theorem q84_49 : am_look 84 49 = some (.iload 6, 51, 6, 0, 0) := by decide +kernel
theorem q84_51 : am_look 84 51 = some (.iload_n 3, 52, 3, 0, 0) := by decide +kernel
theorem q84_52 : am_look 84 52 = some (.if_icmp .ge 23, 55, 75, 0, 0) := by decide +kernel
theorem q84_55 : am_look 84 55 = some (.aload_n 0, 56, 0, 0, 0) := by decide +kernel
theorem q84_56 : am_look 84 56 = some (.getfield 64, 59, 792, 24, 0) := by decide +kernel
theorem q84_59 : am_look 84 59 = some (.iload 6, 61, 6, 0, 0) := by decide +kernel
theorem q84_61 : am_look 84 61 = some (.aload_n 0, 62, 0, 0, 0) := by decide +kernel
theorem q84_62 : am_look 84 62 = some (.getfield 61, 65, 791, 23, 0) := by decide +kernel
theorem q84_65 : am_look 84 65 = some (.iload 6, 67, 6, 0, 0) := by decide +kernel
theorem q84_67 : am_look 84 67 = some (.iaload, 68, 0, 0, 0) := by decide +kernel
theorem q84_68 : am_look 84 68 = some (.iastore, 69, 0, 0, 0) := by decide +kernel
theorem q84_69 : am_look 84 69 = some (.iinc 6 1, 72, 6, 0, 1) := by decide +kernel
theorem q84_72 : am_look 84 72 = some (.goto (-23), 75, 49, 0, 0) := by decide +kernel
theorem q84_75 : am_look 84 75 = some (.return_, 76, 0, 0, 0) := by decide +kernel
theorem q84_76 : am_look 84 76 = some (.iconst 0, 77, 0, 0, 0) := by decide +kernel
theorem q84_77 : am_look 84 77 = some (.istore 5, 79, 5, 0, 0) := by decide +kernel
theorem q84_79 : am_look 84 79 = some (.iload 5, 81, 5, 0, 0) := by decide +kernel
theorem q84_81 : am_look 84 81 = some (.aload_n 0, 82, 0, 0, 0) := by decide +kernel
theorem q84_82 : am_look 84 82 = some (.getfield 7, 85, 768, 0, 0) := by decide +kernel
theorem q84_85 : am_look 84 85 = some (.iconst 0, 86, 0, 0, 0) := by decide +kernel
theorem q84_86 : am_look 84 86 = some (.iaload, 87, 0, 0, 0) := by decide +kernel
theorem q84_87 : am_look 84 87 = some (.if_icmp .ge 61, 90, 148, 0, 0) := by decide +kernel
theorem q84_90 : am_look 84 90 = some (.iload_n 2, 91, 2, 0, 0) := by decide +kernel
theorem q84_91 : am_look 84 91 = some (.iload 5, 93, 5, 0, 0) := by decide +kernel
theorem q84_93 : am_look 84 93 = some (.ishr, 94, 0, 0, 0) := by decide +kernel
theorem q84_94 : am_look 84 94 = some (.iconst 1, 95, 0, 0, 1) := by decide +kernel
theorem q84_95 : am_look 84 95 = some (.iand, 96, 0, 0, 0) := by decide +kernel
theorem q84_96 : am_look 84 96 = some (.ifCond .ne 6, 99, 102, 0, 0) := by decide +kernel
theorem q84_99 : am_look 84 99 = some (.goto 43, 102, 142, 0, 0) := by decide +kernel
theorem q84_102 : am_look 84 102 = some (.aload_n 0, 103, 0, 0, 0) := by decide +kernel
theorem q84_103 : am_look 84 103 = some (.getfield 61, 106, 791, 23, 0) := by decide +kernel
theorem q84_106 : am_look 84 106 = some (.iload_n 3, 107, 3, 0, 0) := by decide +kernel
theorem q84_107 : am_look 84 107 = some (.iload 5, 109, 5, 0, 0) := by decide +kernel
theorem q84_109 : am_look 84 109 = some (.iastore, 110, 0, 0, 0) := by decide +kernel
theorem q84_110 : am_look 84 110 = some (.aload_n 0, 111, 0, 0, 0) := by decide +kernel
theorem q84_111 : am_look 84 111 = some (.iload 5, 113, 5, 0, 0) := by decide +kernel
theorem q84_113 : am_look 84 113 = some (.iload_n 2, 114, 2, 0, 0) := by decide +kernel
theorem q84_114 : am_look 84 114 = some (.iconst 1, 115, 0, 0, 1) := by decide +kernel
theorem q84_115 : am_look 84 115 = some (.iload 5, 117, 5, 0, 0) := by decide +kernel
theorem q84_117 : am_look 84 117 = some (.ishl, 118, 0, 0, 0) := by decide +kernel
theorem q84_118 : am_look 84 118 = some (.iconst (-1), 119, 0, 0, (-1)) := by decide +kernel
theorem q84_119 : am_look 84 119 = some (.ixor, 120, 0, 0, 0) := by decide +kernel
theorem q84_120 : am_look 84 120 = some (.iand, 121, 0, 0, 0) := by decide +kernel
theorem q84_121 : am_look 84 121 = some (.iload_n 3, 122, 3, 0, 0) := by decide +kernel
theorem q84_122 : am_look 84 122 = some (.iconst 1, 123, 0, 0, 1) := by decide +kernel
theorem q84_123 : am_look 84 123 = some (.iadd, 124, 0, 0, 0) := by decide +kernel
theorem q84_124 : am_look 84 124 = some (.iload 4, 126, 4, 0, 0) := by decide +kernel
theorem q84_126 : am_look 84 126 = some (.aload_n 0, 127, 0, 0, 0) := by decide +kernel
theorem q84_127 : am_look 84 127 = some (.getfield 58, 130, 790, 22, 0) := by decide +kernel
theorem q84_130 : am_look 84 130 = some (.bipush 12, 132, 0, 0, 12) := by decide +kernel
theorem q84_132 : am_look 84 132 = some (.iload_n 1, 133, 1, 0, 0) := by decide +kernel
theorem q84_133 : am_look 84 133 = some (.imul, 134, 0, 0, 0) := by decide +kernel
theorem q84_134 : am_look 84 134 = some (.iload 5, 136, 5, 0, 0) := by decide +kernel
theorem q84_136 : am_look 84 136 = some (.iadd, 137, 0, 0, 0) := by decide +kernel
theorem q84_137 : am_look 84 137 = some (.iaload, 138, 0, 0, 0) := by decide +kernel
theorem q84_138 : am_look 84 138 = some (.iadd, 139, 0, 0, 0) := by decide +kernel
theorem q84_139 : am_look 84 139 = some (.invokevirtual 209, 142, 84, 5, 12) := by decide +kernel
theorem q84_142 : am_look 84 142 = some (.iinc 5 1, 145, 5, 0, 1) := by decide +kernel
theorem q84_145 : am_look 84 145 = some (.goto (-66), 148, 79, 0, 0) := by decide +kernel
theorem q84_148 : am_look 84 148 = some (.return_, 149, 0, 0, 0) := by decide +kernel
theorem zb84 : am_zb 84 = false := by decide +kernel
theorem ml84 : am_ml 84 = 7 := by decide +kernel
theorem np84 : am_np 84 + (if am_sc 84 then 0 else 1) = 5 := by decide +kernel
theorem st84 {d : Nat} {h h1 : am_H} {r : Option am_V} (p0 : Nat) (a1 : Int) (a2 : Int) (a3 : Int) (a4 : Int) (H : am_x (am_cd d) 84 (fun r2 h2 => r2 = r ∧ h2 = h1) 0 0 [some (.inr (.inr p0)), some (.inl a1), some (.inl a2), some (.inl a3), some (.inl a4), none, none] [] h) : am_cd (d + 1) 84 [.inr (.inr p0), .inl a1, .inl a2, .inl a3, .inl a4] h r h1 := by
  refine ⟨⟨by rw [ml84]; simp [am_en], by rw [np84]; rfl⟩, ?_⟩
  rw [ml84]; exact H
theorem q85_0 : am_look 85 0 = some (.iconst 0, 1, 0, 0, 0) := by decide +kernel
theorem q85_1 : am_look 85 1 = some (.istore_n 1, 2, 1, 0, 0) := by decide +kernel
theorem q85_2 : am_look 85 2 = some (.iload_n 0, 3, 0, 0, 0) := by decide +kernel
theorem q85_3 : am_look 85 3 = some (.istore_n 2, 4, 2, 0, 0) := by decide +kernel
theorem q85_4 : am_look 85 4 = some (.iload_n 2, 5, 2, 0, 0) := by decide +kernel
theorem q85_5 : am_look 85 5 = some (.ifCond .eq 15, 8, 20, 0, 0) := by decide +kernel
theorem q85_8 : am_look 85 8 = some (.iinc 1 1, 11, 1, 0, 1) := by decide +kernel
theorem q85_11 : am_look 85 11 = some (.iload_n 2, 12, 2, 0, 0) := by decide +kernel
theorem q85_12 : am_look 85 12 = some (.iload_n 2, 13, 2, 0, 0) := by decide +kernel
theorem q85_13 : am_look 85 13 = some (.iconst 1, 14, 0, 0, 1) := by decide +kernel
theorem q85_14 : am_look 85 14 = some (.isub, 15, 0, 0, 0) := by decide +kernel
theorem q85_15 : am_look 85 15 = some (.iand, 16, 0, 0, 0) := by decide +kernel
theorem q85_16 : am_look 85 16 = some (.istore_n 2, 17, 2, 0, 0) := by decide +kernel
theorem q85_17 : am_look 85 17 = some (.goto (-13), 20, 4, 0, 0) := by decide +kernel
theorem q85_20 : am_look 85 20 = some (.iload_n 1, 21, 1, 0, 0) := by decide +kernel
theorem q85_21 : am_look 85 21 = some (.ireturn, 22, 0, 0, 0) := by decide +kernel
theorem zb85 : am_zb 85 = false := by decide +kernel
theorem ml85 : am_ml 85 = 3 := by decide +kernel
theorem np85 : am_np 85 + (if am_sc 85 then 0 else 1) = 1 := by decide +kernel
theorem st85 {d : Nat} {h h1 : am_H} {r : Option am_V} (a1 : Int) (H : am_x (am_cd d) 85 (fun r2 h2 => r2 = r ∧ h2 = h1) 0 0 [some (.inl a1), none, none] [] h) : am_cd (d + 1) 85 [.inl a1] h r h1 := by
  refine ⟨⟨by rw [ml85]; simp [am_en], by rw [np85]; rfl⟩, ?_⟩
  rw [ml85]; exact H
theorem q86_0 : am_look 86 0 = some (.iload_n 0, 1, 0, 0, 0) := by decide +kernel
theorem q86_1 : am_look 86 1 = some (.iload_n 0, 2, 0, 0, 0) := by decide +kernel
theorem q86_2 : am_look 86 2 = some (.iconst 1, 3, 0, 0, 1) := by decide +kernel
theorem q86_3 : am_look 86 3 = some (.iushr, 4, 0, 0, 0) := by decide +kernel
theorem q86_4 : am_look 86 4 = some (.ldc_w 265, 7, 0, 0, 1431655765) := by decide +kernel
theorem q86_7 : am_look 86 7 = some (.iand, 8, 0, 0, 0) := by decide +kernel
theorem q86_8 : am_look 86 8 = some (.isub, 9, 0, 0, 0) := by decide +kernel
theorem q86_9 : am_look 86 9 = some (.istore_n 0, 10, 0, 0, 0) := by decide +kernel
theorem q86_10 : am_look 86 10 = some (.iload_n 0, 11, 0, 0, 0) := by decide +kernel
theorem q86_11 : am_look 86 11 = some (.ldc_w 266, 14, 0, 0, 858993459) := by decide +kernel
theorem q86_14 : am_look 86 14 = some (.iand, 15, 0, 0, 0) := by decide +kernel
theorem q86_15 : am_look 86 15 = some (.iload_n 0, 16, 0, 0, 0) := by decide +kernel
theorem q86_16 : am_look 86 16 = some (.iconst 2, 17, 0, 0, 2) := by decide +kernel
theorem q86_17 : am_look 86 17 = some (.iushr, 18, 0, 0, 0) := by decide +kernel
theorem q86_18 : am_look 86 18 = some (.ldc_w 266, 21, 0, 0, 858993459) := by decide +kernel
theorem q86_21 : am_look 86 21 = some (.iand, 22, 0, 0, 0) := by decide +kernel
theorem q86_22 : am_look 86 22 = some (.iadd, 23, 0, 0, 0) := by decide +kernel
theorem q86_23 : am_look 86 23 = some (.istore_n 0, 24, 0, 0, 0) := by decide +kernel
theorem q86_24 : am_look 86 24 = some (.iload_n 0, 25, 0, 0, 0) := by decide +kernel
theorem q86_25 : am_look 86 25 = some (.iload_n 0, 26, 0, 0, 0) := by decide +kernel
theorem q86_26 : am_look 86 26 = some (.iconst 4, 27, 0, 0, 4) := by decide +kernel
theorem q86_27 : am_look 86 27 = some (.iushr, 28, 0, 0, 0) := by decide +kernel
theorem q86_28 : am_look 86 28 = some (.iadd, 29, 0, 0, 0) := by decide +kernel
theorem q86_29 : am_look 86 29 = some (.ldc_w 267, 32, 0, 0, 252645135) := by decide +kernel
theorem q86_32 : am_look 86 32 = some (.iand, 33, 0, 0, 0) := by decide +kernel
theorem q86_33 : am_look 86 33 = some (.istore_n 0, 34, 0, 0, 0) := by decide +kernel
theorem q86_34 : am_look 86 34 = some (.iload_n 0, 35, 0, 0, 0) := by decide +kernel
theorem q86_35 : am_look 86 35 = some (.iload_n 0, 36, 0, 0, 0) := by decide +kernel
theorem q86_36 : am_look 86 36 = some (.bipush 8, 38, 0, 0, 8) := by decide +kernel
theorem q86_38 : am_look 86 38 = some (.iushr, 39, 0, 0, 0) := by decide +kernel
theorem q86_39 : am_look 86 39 = some (.iadd, 40, 0, 0, 0) := by decide +kernel
theorem q86_40 : am_look 86 40 = some (.istore_n 0, 41, 0, 0, 0) := by decide +kernel
theorem q86_41 : am_look 86 41 = some (.iload_n 0, 42, 0, 0, 0) := by decide +kernel
theorem q86_42 : am_look 86 42 = some (.iload_n 0, 43, 0, 0, 0) := by decide +kernel
theorem q86_43 : am_look 86 43 = some (.bipush 16, 45, 0, 0, 16) := by decide +kernel
theorem q86_45 : am_look 86 45 = some (.iushr, 46, 0, 0, 0) := by decide +kernel
theorem q86_46 : am_look 86 46 = some (.iadd, 47, 0, 0, 0) := by decide +kernel
theorem q86_47 : am_look 86 47 = some (.istore_n 0, 48, 0, 0, 0) := by decide +kernel
theorem q86_48 : am_look 86 48 = some (.iload_n 0, 49, 0, 0, 0) := by decide +kernel
theorem q86_49 : am_look 86 49 = some (.bipush 63, 51, 0, 0, 63) := by decide +kernel
theorem q86_51 : am_look 86 51 = some (.iand, 52, 0, 0, 0) := by decide +kernel
theorem q86_52 : am_look 86 52 = some (.ireturn, 53, 0, 0, 0) := by decide +kernel
theorem zb86 : am_zb 86 = false := by decide +kernel
theorem ml86 : am_ml 86 = 1 := by decide +kernel
theorem np86 : am_np 86 + (if am_sc 86 then 0 else 1) = 1 := by decide +kernel
theorem st86 {d : Nat} {h h1 : am_H} {r : Option am_V} (a1 : Int) (H : am_x (am_cd d) 86 (fun r2 h2 => r2 = r ∧ h2 = h1) 0 0 [some (.inl a1)] [] h) : am_cd (d + 1) 86 [.inl a1] h r h1 := by
  refine ⟨⟨by rw [ml86]; simp [am_en], by rw [np86]; rfl⟩, ?_⟩
  rw [ml86]; exact H
theorem q87_0 : am_look 87 0 = some (.iload_n 0, 1, 0, 0, 0) := by decide +kernel
theorem q87_1 : am_look 87 1 = some (.iload_n 1, 2, 1, 0, 0) := by decide +kernel
theorem q87_2 : am_look 87 2 = some (.if_icmp .lt 7, 5, 9, 0, 0) := by decide +kernel
theorem q87_5 : am_look 87 5 = some (.iload_n 0, 6, 0, 0, 0) := by decide +kernel
theorem q87_6 : am_look 87 6 = some (.goto 4, 9, 10, 0, 0) := by decide +kernel
theorem q87_9 : am_look 87 9 = some (.iload_n 1, 10, 1, 0, 0) := by decide +kernel
theorem q87_10 : am_look 87 10 = some (.ireturn, 11, 0, 0, 0) := by decide +kernel
theorem zb87 : am_zb 87 = false := by decide +kernel
theorem ml87 : am_ml 87 = 2 := by decide +kernel
theorem np87 : am_np 87 + (if am_sc 87 then 0 else 1) = 2 := by decide +kernel
theorem st87 {d : Nat} {h h1 : am_H} {r : Option am_V} (a1 : Int) (a2 : Int) (H : am_x (am_cd d) 87 (fun r2 h2 => r2 = r ∧ h2 = h1) 0 0 [some (.inl a1), some (.inl a2)] [] h) : am_cd (d + 1) 87 [.inl a1, .inl a2] h r h1 := by
  refine ⟨⟨by rw [ml87]; simp [am_en], by rw [np87]; rfl⟩, ?_⟩
  rw [ml87]; exact H
theorem q88_0 : am_look 88 0 = some (.iload_n 0, 1, 0, 0, 0) := by decide +kernel
theorem q88_1 : am_look 88 1 = some (.iload_n 1, 2, 1, 0, 0) := by decide +kernel
theorem q88_2 : am_look 88 2 = some (.if_icmp .gt 7, 5, 9, 0, 0) := by decide +kernel
theorem q88_5 : am_look 88 5 = some (.iload_n 0, 6, 0, 0, 0) := by decide +kernel
theorem q88_6 : am_look 88 6 = some (.goto 4, 9, 10, 0, 0) := by decide +kernel
theorem q88_9 : am_look 88 9 = some (.iload_n 1, 10, 1, 0, 0) := by decide +kernel
theorem q88_10 : am_look 88 10 = some (.ireturn, 11, 0, 0, 0) := by decide +kernel
theorem zb88 : am_zb 88 = false := by decide +kernel
theorem ml88 : am_ml 88 = 2 := by decide +kernel
theorem np88 : am_np 88 + (if am_sc 88 then 0 else 1) = 2 := by decide +kernel
theorem st88 {d : Nat} {h h1 : am_H} {r : Option am_V} (a1 : Int) (a2 : Int) (H : am_x (am_cd d) 88 (fun r2 h2 => r2 = r ∧ h2 = h1) 0 0 [some (.inl a1), some (.inl a2)] [] h) : am_cd (d + 1) 88 [.inl a1, .inl a2] h r h1 := by
  refine ⟨⟨by rw [ml88]; simp [am_en], by rw [np88]; rfl⟩, ?_⟩
  rw [ml88]; exact H
theorem q89_0 : am_look 89 0 = some (.iload_n 1, 1, 1, 0, 0) := by decide +kernel
theorem q89_1 : am_look 89 1 = some (.iload_n 2, 2, 2, 0, 0) := by decide +kernel
theorem q89_2 : am_look 89 2 = some (.if_icmp .le 44, 5, 46, 0, 0) := by decide +kernel
theorem q89_8 : am_look 89 8 = some (.dup, 9, 0, 0, 0) := by decide +kernel
theorem q89_12 : am_look 89 12 = some (.dup, 13, 0, 0, 0) := by decide +kernel
theorem q89_21 : am_look 89 21 = some (.iload_n 1, 22, 1, 0, 0) := by decide +kernel
theorem q89_30 : am_look 89 30 = some (.iload_n 2, 31, 2, 0, 0) := by decide +kernel
theorem q89_46 : am_look 89 46 = some (.iload_n 1, 47, 1, 0, 0) := by decide +kernel
theorem q89_47 : am_look 89 47 = some (.ifCond .ge 12, 50, 59, 0, 0) := by decide +kernel
theorem q89_53 : am_look 89 53 = some (.dup, 54, 0, 0, 0) := by decide +kernel
theorem q89_54 : am_look 89 54 = some (.iload_n 1, 55, 1, 0, 0) := by decide +kernel
theorem q89_59 : am_look 89 59 = some (.iload_n 2, 60, 2, 0, 0) := by decide +kernel
theorem q89_60 : am_look 89 60 = some (.iload_n 0, 61, 0, 0, 0) := by decide +kernel
theorem q89_61 : am_look 89 61 = some (.if_icmp .le 12, 64, 73, 0, 0) := by decide +kernel
theorem q89_67 : am_look 89 67 = some (.dup, 68, 0, 0, 0) := by decide +kernel
theorem q89_68 : am_look 89 68 = some (.iload_n 2, 69, 2, 0, 0) := by decide +kernel
theorem q89_73 : am_look 89 73 = some (.return_, 74, 0, 0, 0) := by decide +kernel
theorem zb89 : am_zb 89 = false := by decide +kernel
theorem ml89 : am_ml 89 = 3 := by decide +kernel
theorem np89 : am_np 89 + (if am_sc 89 then 0 else 1) = 3 := by decide +kernel
theorem st89 {d : Nat} {h h1 : am_H} {r : Option am_V} (a1 : Int) (a2 : Int) (a3 : Int) (H : am_x (am_cd d) 89 (fun r2 h2 => r2 = r ∧ h2 = h1) 0 0 [some (.inl a1), some (.inl a2), some (.inl a3)] [] h) : am_cd (d + 1) 89 [.inl a1, .inl a2, .inl a3] h r h1 := by
  refine ⟨⟨by rw [ml89]; simp [am_en], by rw [np89]; rfl⟩, ?_⟩
  rw [ml89]; exact H
theorem q90_0 : am_look 90 0 = some (.iconst 0, 1, 0, 0, 0) := by decide +kernel
theorem q90_1 : am_look 90 1 = some (.istore_n 2, 2, 2, 0, 0) := by decide +kernel
theorem q90_2 : am_look 90 2 = some (.aload_n 0, 3, 0, 0, 0) := by decide +kernel
theorem q90_3 : am_look 90 3 = some (.arraylength, 4, 0, 0, 0) := by decide +kernel
theorem q90_4 : am_look 90 4 = some (.istore_n 3, 5, 3, 0, 0) := by decide +kernel
theorem q90_5 : am_look 90 5 = some (.iload_n 2, 6, 2, 0, 0) := by decide +kernel
theorem q90_6 : am_look 90 6 = some (.iload_n 3, 7, 3, 0, 0) := by decide +kernel
theorem q90_7 : am_look 90 7 = some (.if_icmp .ge 13, 10, 20, 0, 0) := by decide +kernel
theorem q90_10 : am_look 90 10 = some (.aload_n 0, 11, 0, 0, 0) := by decide +kernel
theorem q90_11 : am_look 90 11 = some (.iload_n 2, 12, 2, 0, 0) := by decide +kernel
theorem q90_12 : am_look 90 12 = some (.iload_n 1, 13, 1, 0, 0) := by decide +kernel
theorem q90_13 : am_look 90 13 = some (.iastore, 14, 0, 0, 0) := by decide +kernel
theorem q90_14 : am_look 90 14 = some (.iinc 2 1, 17, 2, 0, 1) := by decide +kernel
theorem q90_17 : am_look 90 17 = some (.goto (-12), 20, 5, 0, 0) := by decide +kernel
theorem q90_20 : am_look 90 20 = some (.return_, 21, 0, 0, 0) := by decide +kernel
theorem zb90 : am_zb 90 = false := by decide +kernel
theorem ml90 : am_ml 90 = 4 := by decide +kernel
theorem np90 : am_np 90 + (if am_sc 90 then 0 else 1) = 2 := by decide +kernel
theorem st90 {d : Nat} {h h1 : am_H} {r : Option am_V} (a1 : Nat) (a2 : Int) (H : am_x (am_cd d) 90 (fun r2 h2 => r2 = r ∧ h2 = h1) 0 0 [some (.inr (.inr a1)), some (.inl a2), none, none] [] h) : am_cd (d + 1) 90 [.inr (.inr a1), .inl a2] h r h1 := by
  refine ⟨⟨by rw [ml90]; simp [am_en], by rw [np90]; rfl⟩, ?_⟩
  rw [ml90]; exact H
theorem q91_0 : am_look 91 0 = some (.iconst 0, 1, 0, 0, 0) := by decide +kernel
theorem q91_1 : am_look 91 1 = some (.istore_n 1, 2, 1, 0, 0) := by decide +kernel
theorem q91_2 : am_look 91 2 = some (.iconst 0, 3, 0, 0, 0) := by decide +kernel
theorem q91_3 : am_look 91 3 = some (.istore_n 2, 4, 2, 0, 0) := by decide +kernel
theorem q91_4 : am_look 91 4 = some (.iload_n 2, 5, 2, 0, 0) := by decide +kernel
theorem q91_5 : am_look 91 5 = some (.aload_n 0, 6, 0, 0, 0) := by decide +kernel
theorem q91_6 : am_look 91 6 = some (.getfield 36, 9, 1, 1, 0) := by decide +kernel
theorem q91_9 : am_look 91 9 = some (.if_icmp .ge 20, 12, 29, 0, 0) := by decide +kernel
theorem q91_12 : am_look 91 12 = some (.aload_n 0, 13, 0, 0, 0) := by decide +kernel
theorem q91_13 : am_look 91 13 = some (.iload_n 2, 14, 2, 0, 0) := by decide +kernel
theorem q91_14 : am_look 91 14 = some (.invokevirtual 40, 17, 4, 2, 0) := by decide +kernel
theorem q91_17 : am_look 91 17 = some (.ifCond .ne 6, 20, 23, 0, 0) := by decide +kernel
theorem q91_20 : am_look 91 20 = some (.iinc 1 1, 23, 1, 0, 1) := by decide +kernel
theorem q91_23 : am_look 91 23 = some (.iinc 2 1, 26, 2, 0, 1) := by decide +kernel
theorem q91_26 : am_look 91 26 = some (.goto (-22), 29, 4, 0, 0) := by decide +kernel
theorem q91_29 : am_look 91 29 = some (.iload_n 1, 30, 1, 0, 0) := by decide +kernel
theorem q91_30 : am_look 91 30 = some (.ireturn, 31, 0, 0, 0) := by decide +kernel
theorem zb91 : am_zb 91 = false := by decide +kernel
theorem ml91 : am_ml 91 = 3 := by decide +kernel
theorem np91 : am_np 91 + (if am_sc 91 then 0 else 1) = 1 := by decide +kernel
theorem st91 {d : Nat} {h h1 : am_H} {r : Option am_V} (p0 : Nat) (H : am_x (am_cd d) 91 (fun r2 h2 => r2 = r ∧ h2 = h1) 0 0 [some (.inr (.inr p0)), none, none] [] h) : am_cd (d + 1) 91 [.inr (.inr p0)] h r h1 := by
  refine ⟨⟨by rw [ml91]; simp [am_en], by rw [np91]; rfl⟩, ?_⟩
  rw [ml91]; exact H
theorem q92_0 : am_look 92 0 = some (.aload_n 0, 1, 0, 0, 0) := by decide +kernel
theorem q92_1 : am_look 92 1 = some (.getfield 29, 4, 7, 7, 0) := by decide +kernel
theorem q92_4 : am_look 92 4 = some (.iconst 0, 5, 0, 0, 0) := by decide +kernel
theorem q92_5 : am_look 92 5 = some (.invokestatic 44, 8, 90, 2, 99) := by decide +kernel
theorem q92_8 : am_look 92 8 = some (.iconst 0, 9, 0, 0, 0) := by decide +kernel
theorem q92_9 : am_look 92 9 = some (.istore 4, 11, 4, 0, 0) := by decide +kernel
theorem q92_11 : am_look 92 11 = some (.aload_n 0, 12, 0, 0, 0) := by decide +kernel
theorem q92_12 : am_look 92 12 = some (.getfield 36, 15, 1, 1, 0) := by decide +kernel
theorem q92_15 : am_look 92 15 = some (.iconst 1, 16, 0, 0, 1) := by decide +kernel
theorem q92_16 : am_look 92 16 = some (.isub, 17, 0, 0, 0) := by decide +kernel
theorem q92_17 : am_look 92 17 = some (.istore 5, 19, 5, 0, 0) := by decide +kernel
theorem q92_19 : am_look 92 19 = some (.iload 5, 21, 5, 0, 0) := by decide +kernel
theorem q92_21 : am_look 92 21 = some (.ifCond .lt 103, 24, 124, 0, 0) := by decide +kernel
theorem q92_24 : am_look 92 24 = some (.iconst 1, 25, 0, 0, 1) := by decide +kernel
theorem q92_25 : am_look 92 25 = some (.aload_n 0, 26, 0, 0, 0) := by decide +kernel
theorem q92_26 : am_look 92 26 = some (.getfield 11, 29, 2, 2, 0) := by decide +kernel
theorem q92_29 : am_look 92 29 = some (.iload 5, 31, 5, 0, 0) := by decide +kernel
theorem q92_31 : am_look 92 31 = some (.iaload, 32, 0, 0, 0) := by decide +kernel
theorem q92_32 : am_look 92 32 = some (.ishl, 33, 0, 0, 0) := by decide +kernel
theorem q92_33 : am_look 92 33 = some (.istore 6, 35, 6, 0, 0) := by decide +kernel
theorem q92_35 : am_look 92 35 = some (.aload_n 0, 36, 0, 0, 0) := by decide +kernel
theorem q92_36 : am_look 92 36 = some (.getfield 15, 39, 3, 3, 0) := by decide +kernel
theorem q92_39 : am_look 92 39 = some (.iload 5, 41, 5, 0, 0) := by decide +kernel
theorem q92_41 : am_look 92 41 = some (.iaload, 42, 0, 0, 0) := by decide +kernel
theorem q92_42 : am_look 92 42 = some (.iload_n 2, 43, 2, 0, 0) := by decide +kernel
theorem q92_43 : am_look 92 43 = some (.if_icmp .ne 75, 46, 118, 0, 0) := by decide +kernel
theorem q92_46 : am_look 92 46 = some (.iload 4, 48, 4, 0, 0) := by decide +kernel
theorem q92_48 : am_look 92 48 = some (.iload 6, 50, 6, 0, 0) := by decide +kernel
theorem q92_50 : am_look 92 50 = some (.iand, 51, 0, 0, 0) := by decide +kernel
theorem q92_51 : am_look 92 51 = some (.ifCond .ne 67, 54, 118, 0, 0) := by decide +kernel
theorem q92_54 : am_look 92 54 = some (.aload_n 0, 55, 0, 0, 0) := by decide +kernel
theorem q92_55 : am_look 92 55 = some (.iload 5, 57, 5, 0, 0) := by decide +kernel
theorem q92_57 : am_look 92 57 = some (.iload_n 3, 58, 3, 0, 0) := by decide +kernel
theorem q92_58 : am_look 92 58 = some (.invokevirtual 50, 61, 8, 3, 0) := by decide +kernel
theorem q92_61 : am_look 92 61 = some (.ifCond .eq 57, 64, 118, 0, 0) := by decide +kernel
theorem q92_64 : am_look 92 64 = some (.iload 4, 66, 4, 0, 0) := by decide +kernel
theorem q92_66 : am_look 92 66 = some (.iload 6, 68, 6, 0, 0) := by decide +kernel
theorem q92_68 : am_look 92 68 = some (.ior, 69, 0, 0, 0) := by decide +kernel
theorem q92_69 : am_look 92 69 = some (.istore 4, 71, 4, 0, 0) := by decide +kernel
theorem q92_71 : am_look 92 71 = some (.aload_n 0, 72, 0, 0, 0) := by decide +kernel
theorem q92_72 : am_look 92 72 = some (.getfield 32, 75, 0, 0, 0) := by decide +kernel
theorem q92_75 : am_look 92 75 = some (.aload_n 0, 76, 0, 0, 0) := by decide +kernel
theorem q92_76 : am_look 92 76 = some (.getfield 11, 79, 2, 2, 0) := by decide +kernel
theorem q92_79 : am_look 92 79 = some (.iload 5, 81, 5, 0, 0) := by decide +kernel
theorem q92_81 : am_look 92 81 = some (.iaload, 82, 0, 0, 0) := by decide +kernel
theorem q92_82 : am_look 92 82 = some (.invokevirtual 54, 85, 14, 2, 1) := by decide +kernel
theorem q92_85 : am_look 92 85 = some (.iload_n 1, 86, 1, 0, 0) := by decide +kernel
theorem q92_86 : am_look 92 86 = some (.if_icmp .ne 32, 89, 118, 0, 0) := by decide +kernel
theorem q92_89 : am_look 92 89 = some (.aload_n 0, 90, 0, 0, 0) := by decide +kernel
theorem q92_90 : am_look 92 90 = some (.getfield 29, 93, 7, 7, 0) := by decide +kernel
theorem q92_93 : am_look 92 93 = some (.aload_n 0, 94, 0, 0, 0) := by decide +kernel
theorem q92_94 : am_look 92 94 = some (.getfield 18, 97, 4, 4, 0) := by decide +kernel
theorem q92_97 : am_look 92 97 = some (.iload 5, 99, 5, 0, 0) := by decide +kernel
theorem q92_99 : am_look 92 99 = some (.iaload, 100, 0, 0, 0) := by decide +kernel
theorem q92_100 : am_look 92 100 = some (.dup2, 101, 0, 0, 0) := by decide +kernel
theorem q92_101 : am_look 92 101 = some (.iaload, 102, 0, 0, 0) := by decide +kernel
theorem q92_102 : am_look 92 102 = some (.aload_n 0, 103, 0, 0, 0) := by decide +kernel
theorem q92_103 : am_look 92 103 = some (.getfield 32, 106, 0, 0, 0) := by decide +kernel
theorem q92_106 : am_look 92 106 = some (.aload_n 0, 107, 0, 0, 0) := by decide +kernel
theorem q92_107 : am_look 92 107 = some (.getfield 11, 110, 2, 2, 0) := by decide +kernel
theorem q92_110 : am_look 92 110 = some (.iload 5, 112, 5, 0, 0) := by decide +kernel
theorem q92_112 : am_look 92 112 = some (.iaload, 113, 0, 0, 0) := by decide +kernel
theorem q92_113 : am_look 92 113 = some (.invokevirtual 60, 116, 16, 2, 1) := by decide +kernel
theorem q92_116 : am_look 92 116 = some (.iadd, 117, 0, 0, 0) := by decide +kernel
theorem q92_117 : am_look 92 117 = some (.iastore, 118, 0, 0, 0) := by decide +kernel
theorem q92_118 : am_look 92 118 = some (.iinc 5 (-1), 121, 5, 0, (-1)) := by decide +kernel
theorem q92_121 : am_look 92 121 = some (.goto (-102), 124, 19, 0, 0) := by decide +kernel
theorem q92_124 : am_look 92 124 = some (.return_, 125, 0, 0, 0) := by decide +kernel
theorem zb92 : am_zb 92 = false := by decide +kernel
theorem ml92 : am_ml 92 = 7 := by decide +kernel
theorem np92 : am_np 92 + (if am_sc 92 then 0 else 1) = 4 := by decide +kernel
theorem st92 {d : Nat} {h h1 : am_H} {r : Option am_V} (p0 : Nat) (a1 : Int) (a2 : Int) (a3 : Int) (H : am_x (am_cd d) 92 (fun r2 h2 => r2 = r ∧ h2 = h1) 0 0 [some (.inr (.inr p0)), some (.inl a1), some (.inl a2), some (.inl a3), none, none, none] [] h) : am_cd (d + 1) 92 [.inr (.inr p0), .inl a1, .inl a2, .inl a3] h r h1 := by
  refine ⟨⟨by rw [ml92]; simp [am_en], by rw [np92]; rfl⟩, ?_⟩
  rw [ml92]; exact H
theorem q93_0 : am_look 93 0 = some (.getstatic 37, 3, 2002, 0, 0) := by decide +kernel
theorem q93_3 : am_look 93 3 = some (.iload_n 2, 4, 2, 0, 0) := by decide +kernel
theorem q93_4 : am_look 93 4 = some (.iaload, 5, 0, 0, 0) := by decide +kernel
theorem q93_5 : am_look 93 5 = some (.aload_n 0, 6, 0, 0, 0) := by decide +kernel
theorem q93_6 : am_look 93 6 = some (.getfield 9, 9, 128, 0, 0) := by decide +kernel
theorem q93_9 : am_look 93 9 = some (.iload_n 1, 10, 1, 0, 0) := by decide +kernel
theorem q93_10 : am_look 93 10 = some (.invokevirtual 67, 13, 41, 2, 6) := by decide +kernel
theorem q93_13 : am_look 93 13 = some (.imul, 14, 0, 0, 0) := by decide +kernel
theorem q93_14 : am_look 93 14 = some (.getstatic 71, 17, 2003, 0, 0) := by decide +kernel
theorem q93_17 : am_look 93 17 = some (.iload_n 2, 18, 2, 0, 0) := by decide +kernel
theorem q93_18 : am_look 93 18 = some (.iaload, 19, 0, 0, 0) := by decide +kernel
theorem q93_19 : am_look 93 19 = some (.aload_n 0, 20, 0, 0, 0) := by decide +kernel
theorem q93_20 : am_look 93 20 = some (.getfield 9, 23, 128, 0, 0) := by decide +kernel
theorem q93_23 : am_look 93 23 = some (.iload_n 1, 24, 1, 0, 0) := by decide +kernel
theorem q93_24 : am_look 93 24 = some (.invokevirtual 74, 27, 42, 2, 6) := by decide +kernel
theorem q93_27 : am_look 93 27 = some (.imul, 28, 0, 0, 0) := by decide +kernel
theorem q93_28 : am_look 93 28 = some (.iadd, 29, 0, 0, 0) := by decide +kernel
theorem q93_29 : am_look 93 29 = some (.ireturn, 30, 0, 0, 0) := by decide +kernel
theorem zb93 : am_zb 93 = false := by decide +kernel
theorem ml93 : am_ml 93 = 3 := by decide +kernel
theorem np93 : am_np 93 + (if am_sc 93 then 0 else 1) = 3 := by decide +kernel
theorem st93 {d : Nat} {h h1 : am_H} {r : Option am_V} (p0 : Nat) (a1 : Int) (a2 : Int) (H : am_x (am_cd d) 93 (fun r2 h2 => r2 = r ∧ h2 = h1) 0 0 [some (.inr (.inr p0)), some (.inl a1), some (.inl a2)] [] h) : am_cd (d + 1) 93 [.inr (.inr p0), .inl a1, .inl a2] h r h1 := by
  refine ⟨⟨by rw [ml93]; simp [am_en], by rw [np93]; rfl⟩, ?_⟩
  rw [ml93]; exact H
theorem q94_0 : am_look 94 0 = some (.iconst 0, 1, 0, 0, 0) := by decide +kernel
theorem q94_1 : am_look 94 1 = some (.istore 4, 3, 4, 0, 0) := by decide +kernel
theorem q94_3 : am_look 94 3 = some (.iload_n 1, 4, 1, 0, 0) := by decide +kernel
theorem q94_4 : am_look 94 4 = some (.istore 5, 6, 5, 0, 0) := by decide +kernel
theorem q94_6 : am_look 94 6 = some (.iload 5, 8, 5, 0, 0) := by decide +kernel
theorem q94_8 : am_look 94 8 = some (.aload_n 0, 9, 0, 0, 0) := by decide +kernel
theorem q94_9 : am_look 94 9 = some (.getfield 73, 12, 201, 9, 0) := by decide +kernel
theorem q94_12 : am_look 94 12 = some (.if_icmp .ge 59, 15, 71, 0, 0) := by decide +kernel
theorem q94_15 : am_look 94 15 = some (.iload_n 2, 16, 2, 0, 0) := by decide +kernel
theorem q94_16 : am_look 94 16 = some (.iload_n 3, 17, 3, 0, 0) := by decide +kernel
theorem q94_17 : am_look 94 17 = some (.if_icmp .ne 54, 20, 71, 0, 0) := by decide +kernel
theorem q94_20 : am_look 94 20 = some (.ldc 81, 22, 0, 0, 1000000) := by decide +kernel
theorem q94_22 : am_look 94 22 = some (.istore 6, 24, 6, 0, 0) := by decide +kernel
theorem q94_24 : am_look 94 24 = some (.iconst 0, 25, 0, 0, 0) := by decide +kernel
theorem q94_25 : am_look 94 25 = some (.istore 7, 27, 7, 0, 0) := by decide +kernel
theorem q94_27 : am_look 94 27 = some (.iload 7, 29, 7, 0, 0) := by decide +kernel
theorem q94_29 : am_look 94 29 = some (.iload_n 3, 30, 3, 0, 0) := by decide +kernel
theorem q94_30 : am_look 94 30 = some (.if_icmp .ge 28, 33, 58, 0, 0) := by decide +kernel
theorem q94_33 : am_look 94 33 = some (.iload 6, 35, 6, 0, 0) := by decide +kernel
theorem q94_35 : am_look 94 35 = some (.aload_n 0, 36, 0, 0, 0) := by decide +kernel
theorem q94_36 : am_look 94 36 = some (.getfield 20, 39, 197, 5, 0) := by decide +kernel
theorem q94_39 : am_look 94 39 = some (.iload 5, 41, 5, 0, 0) := by decide +kernel
theorem q94_41 : am_look 94 41 = some (.iconst 4, 42, 0, 0, 4) := by decide +kernel
theorem q94_42 : am_look 94 42 = some (.imul, 43, 0, 0, 0) := by decide +kernel
theorem q94_43 : am_look 94 43 = some (.iload 7, 45, 7, 0, 0) := by decide +kernel
theorem q94_45 : am_look 94 45 = some (.iadd, 46, 0, 0, 0) := by decide +kernel
theorem q94_46 : am_look 94 46 = some (.iaload, 47, 0, 0, 0) := by decide +kernel
theorem q94_47 : am_look 94 47 = some (.invokestatic 68, 50, 88, 2, 99) := by decide +kernel
theorem q94_50 : am_look 94 50 = some (.istore 6, 52, 6, 0, 0) := by decide +kernel
theorem q94_52 : am_look 94 52 = some (.iinc 7 1, 55, 7, 0, 1) := by decide +kernel
theorem q94_55 : am_look 94 55 = some (.goto (-28), 58, 27, 0, 0) := by decide +kernel
theorem q94_58 : am_look 94 58 = some (.iload 4, 60, 4, 0, 0) := by decide +kernel
theorem q94_60 : am_look 94 60 = some (.iload 6, 62, 6, 0, 0) := by decide +kernel
theorem q94_62 : am_look 94 62 = some (.iadd, 63, 0, 0, 0) := by decide +kernel
theorem q94_63 : am_look 94 63 = some (.istore 4, 65, 4, 0, 0) := by decide +kernel
theorem q94_65 : am_look 94 65 = some (.iinc 5 1, 68, 5, 0, 1) := by decide +kernel
theorem q94_68 : am_look 94 68 = some (.goto (-62), 71, 6, 0, 0) := by decide +kernel
theorem q94_71 : am_look 94 71 = some (.iload 4, 73, 4, 0, 0) := by decide +kernel
theorem q94_73 : am_look 94 73 = some (.ireturn, 74, 0, 0, 0) := by decide +kernel
theorem zb94 : am_zb 94 = false := by decide +kernel
theorem ml94 : am_ml 94 = 8 := by decide +kernel
theorem np94 : am_np 94 + (if am_sc 94 then 0 else 1) = 4 := by decide +kernel
theorem st94 {d : Nat} {h h1 : am_H} {r : Option am_V} (p0 : Nat) (a1 : Int) (a2 : Int) (a3 : Int) (H : am_x (am_cd d) 94 (fun r2 h2 => r2 = r ∧ h2 = h1) 0 0 [some (.inr (.inr p0)), some (.inl a1), some (.inl a2), some (.inl a3), none, none, none, none] [] h) : am_cd (d + 1) 94 [.inr (.inr p0), .inl a1, .inl a2, .inl a3] h r h1 := by
  refine ⟨⟨by rw [ml94]; simp [am_en], by rw [np94]; rfl⟩, ?_⟩
  rw [ml94]; exact H
theorem q95_0 : am_look 95 0 = some (.aload_n 0, 1, 0, 0, 0) := by decide +kernel
theorem q95_1 : am_look 95 1 = some (.getfield 11, 4, 257, 1, 0) := by decide +kernel
theorem q95_4 : am_look 95 4 = some (.iload_n 1, 5, 1, 0, 0) := by decide +kernel
theorem q95_5 : am_look 95 5 = some (.iaload, 6, 0, 0, 0) := by decide +kernel
theorem q95_6 : am_look 95 6 = some (.iload_n 3, 7, 3, 0, 0) := by decide +kernel
theorem q95_7 : am_look 95 7 = some (.if_icmp .eq 5, 10, 12, 0, 0) := by decide +kernel
theorem q95_10 : am_look 95 10 = some (.iconst 0, 11, 0, 0, 0) := by decide +kernel
theorem q95_11 : am_look 95 11 = some (.ireturn, 12, 0, 0, 0) := by decide +kernel
theorem q95_12 : am_look 95 12 = some (.iconst 0, 13, 0, 0, 0) := by decide +kernel
theorem q95_13 : am_look 95 13 = some (.istore 4, 15, 4, 0, 0) := by decide +kernel
theorem q95_15 : am_look 95 15 = some (.iload 4, 17, 4, 0, 0) := by decide +kernel
theorem q95_17 : am_look 95 17 = some (.iload_n 3, 18, 3, 0, 0) := by decide +kernel
theorem q95_18 : am_look 95 18 = some (.if_icmp .ge 25, 21, 43, 0, 0) := by decide +kernel
theorem q95_21 : am_look 95 21 = some (.aload_n 0, 22, 0, 0, 0) := by decide +kernel
theorem q95_22 : am_look 95 22 = some (.iload_n 1, 23, 1, 0, 0) := by decide +kernel
theorem q95_23 : am_look 95 23 = some (.iload 4, 25, 4, 0, 0) := by decide +kernel
theorem q95_25 : am_look 95 25 = some (.invokevirtual 50, 28, 26, 3, 4) := by decide +kernel
theorem q95_28 : am_look 95 28 = some (.aload_n 2, 29, 2, 0, 0) := by decide +kernel
theorem q95_29 : am_look 95 29 = some (.iload 4, 31, 4, 0, 0) := by decide +kernel
theorem q95_31 : am_look 95 31 = some (.iaload, 32, 0, 0, 0) := by decide +kernel
theorem q95_32 : am_look 95 32 = some (.if_icmp .eq 5, 35, 37, 0, 0) := by decide +kernel
theorem q95_35 : am_look 95 35 = some (.iconst 0, 36, 0, 0, 0) := by decide +kernel
theorem q95_36 : am_look 95 36 = some (.ireturn, 37, 0, 0, 0) := by decide +kernel
theorem q95_37 : am_look 95 37 = some (.iinc 4 1, 40, 4, 0, 1) := by decide +kernel
theorem q95_40 : am_look 95 40 = some (.goto (-25), 43, 15, 0, 0) := by decide +kernel
theorem q95_43 : am_look 95 43 = some (.iconst 1, 44, 0, 0, 1) := by decide +kernel
theorem q95_44 : am_look 95 44 = some (.ireturn, 45, 0, 0, 0) := by decide +kernel
theorem zb95 : am_zb 95 = true := by decide +kernel
theorem ml95 : am_ml 95 = 5 := by decide +kernel
theorem np95 : am_np 95 + (if am_sc 95 then 0 else 1) = 4 := by decide +kernel
theorem st95 {d : Nat} {h h1 : am_H} {r : Option am_V} (p0 : Nat) (a1 : Int) (a2 : Nat) (a3 : Int) (H : am_x (am_cd d) 95 (fun r2 h2 => r2 = r ∧ h2 = h1) 0 0 [some (.inr (.inr p0)), some (.inl a1), some (.inr (.inr a2)), some (.inl a3), none] [] h) : am_cd (d + 1) 95 [.inr (.inr p0), .inl a1, .inr (.inr a2), .inl a3] h r h1 := by
  refine ⟨⟨by rw [ml95]; simp [am_en], by rw [np95]; rfl⟩, ?_⟩
  rw [ml95]; exact H
theorem q96_0 : am_look 96 0 = some (.aload_n 0, 1, 0, 0, 0) := by decide +kernel
theorem q96_1 : am_look 96 1 = some (.getfield 11, 4, 257, 1, 0) := by decide +kernel
theorem q96_4 : am_look 96 4 = some (.iload_n 2, 5, 2, 0, 0) := by decide +kernel
theorem q96_5 : am_look 96 5 = some (.iaload, 6, 0, 0, 0) := by decide +kernel
theorem q96_6 : am_look 96 6 = some (.istore_n 3, 7, 3, 0, 0) := by decide +kernel
theorem q96_7 : am_look 96 7 = some (.iconst 0, 8, 0, 0, 0) := by decide +kernel
theorem q96_8 : am_look 96 8 = some (.istore 4, 10, 4, 0, 0) := by decide +kernel
theorem q96_10 : am_look 96 10 = some (.iload 4, 12, 4, 0, 0) := by decide +kernel
theorem q96_12 : am_look 96 12 = some (.iload_n 3, 13, 3, 0, 0) := by decide +kernel
theorem q96_13 : am_look 96 13 = some (.if_icmp .gt 20, 16, 33, 0, 0) := by decide +kernel
theorem q96_16 : am_look 96 16 = some (.aload_n 0, 17, 0, 0, 0) := by decide +kernel
theorem q96_17 : am_look 96 17 = some (.getfield 24, 20, 262, 6, 0) := by decide +kernel
theorem q96_20 : am_look 96 20 = some (.iload 4, 22, 4, 0, 0) := by decide +kernel
theorem q96_22 : am_look 96 22 = some (.iconst 2, 23, 0, 0, 2) := by decide +kernel
theorem q96_23 : am_look 96 23 = some (.iload 4, 25, 4, 0, 0) := by decide +kernel
theorem q96_25 : am_look 96 25 = some (.imul, 26, 0, 0, 0) := by decide +kernel
theorem q96_26 : am_look 96 26 = some (.iastore, 27, 0, 0, 0) := by decide +kernel
theorem q96_27 : am_look 96 27 = some (.iinc 4 1, 30, 4, 0, 1) := by decide +kernel
theorem q96_30 : am_look 96 30 = some (.goto (-20), 33, 10, 0, 0) := by decide +kernel
theorem q96_33 : am_look 96 33 = some (.iconst 0, 34, 0, 0, 0) := by decide +kernel
theorem q96_34 : am_look 96 34 = some (.istore 4, 36, 4, 0, 0) := by decide +kernel
theorem q96_36 : am_look 96 36 = some (.iload 4, 38, 4, 0, 0) := by decide +kernel
theorem q96_38 : am_look 96 38 = some (.aload_n 0, 39, 0, 0, 0) := by decide +kernel
theorem q96_39 : am_look 96 39 = some (.getfield 11, 42, 257, 1, 0) := by decide +kernel
theorem q96_42 : am_look 96 42 = some (.iload_n 1, 43, 1, 0, 0) := by decide +kernel
theorem q96_43 : am_look 96 43 = some (.iaload, 44, 0, 0, 0) := by decide +kernel
theorem q96_44 : am_look 96 44 = some (.if_icmp .ge 103, 47, 147, 0, 0) := by decide +kernel
theorem q96_47 : am_look 96 47 = some (.aload_n 0, 48, 0, 0, 0) := by decide +kernel
theorem q96_48 : am_look 96 48 = some (.getfield 24, 51, 262, 6, 0) := by decide +kernel
theorem q96_51 : am_look 96 51 = some (.iconst 0, 52, 0, 0, 0) := by decide +kernel
theorem q96_52 : am_look 96 52 = some (.iaload, 53, 0, 0, 0) := by decide +kernel
theorem q96_53 : am_look 96 53 = some (.istore 5, 55, 5, 0, 0) := by decide +kernel
theorem q96_55 : am_look 96 55 = some (.aload_n 0, 56, 0, 0, 0) := by decide +kernel
theorem q96_56 : am_look 96 56 = some (.getfield 24, 59, 262, 6, 0) := by decide +kernel
theorem q96_59 : am_look 96 59 = some (.iconst 0, 60, 0, 0, 0) := by decide +kernel
theorem q96_60 : am_look 96 60 = some (.dup2, 61, 0, 0, 0) := by decide +kernel
theorem q96_61 : am_look 96 61 = some (.iaload, 62, 0, 0, 0) := by decide +kernel
theorem q96_62 : am_look 96 62 = some (.iconst 2, 63, 0, 0, 2) := by decide +kernel
theorem q96_63 : am_look 96 63 = some (.iadd, 64, 0, 0, 0) := by decide +kernel
theorem q96_64 : am_look 96 64 = some (.iastore, 65, 0, 0, 0) := by decide +kernel
theorem q96_65 : am_look 96 65 = some (.iconst 0, 66, 0, 0, 0) := by decide +kernel
theorem q96_66 : am_look 96 66 = some (.istore 6, 68, 6, 0, 0) := by decide +kernel
theorem q96_68 : am_look 96 68 = some (.iload 6, 70, 6, 0, 0) := by decide +kernel
theorem q96_70 : am_look 96 70 = some (.iload_n 3, 71, 3, 0, 0) := by decide +kernel
theorem q96_71 : am_look 96 71 = some (.if_icmp .ge 70, 74, 141, 0, 0) := by decide +kernel
theorem q96_74 : am_look 96 74 = some (.iload 5, 76, 5, 0, 0) := by decide +kernel
theorem q96_76 : am_look 96 76 = some (.aload_n 0, 77, 0, 0, 0) := by decide +kernel
theorem q96_77 : am_look 96 77 = some (.iload_n 1, 78, 1, 0, 0) := by decide +kernel
theorem q96_78 : am_look 96 78 = some (.iload 4, 80, 4, 0, 0) := by decide +kernel
theorem q96_80 : am_look 96 80 = some (.invokevirtual 50, 83, 26, 3, 4) := by decide +kernel
theorem q96_83 : am_look 96 83 = some (.aload_n 0, 84, 0, 0, 0) := by decide +kernel
theorem q96_84 : am_look 96 84 = some (.iload_n 2, 85, 2, 0, 0) := by decide +kernel
theorem q96_85 : am_look 96 85 = some (.iload 6, 87, 6, 0, 0) := by decide +kernel
theorem q96_87 : am_look 96 87 = some (.invokevirtual 50, 90, 26, 3, 4) := by decide +kernel
theorem q96_90 : am_look 96 90 = some (.invokestatic 65, 93, 29, 2, 99) := by decide +kernel
theorem q96_93 : am_look 96 93 = some (.iadd, 94, 0, 0, 0) := by decide +kernel
theorem q96_94 : am_look 96 94 = some (.istore 7, 96, 7, 0, 0) := by decide +kernel
theorem q96_96 : am_look 96 96 = some (.aload_n 0, 97, 0, 0, 0) := by decide +kernel
theorem q96_97 : am_look 96 97 = some (.getfield 24, 100, 262, 6, 0) := by decide +kernel
theorem q96_100 : am_look 96 100 = some (.iload 6, 102, 6, 0, 0) := by decide +kernel
theorem q96_102 : am_look 96 102 = some (.iconst 1, 103, 0, 0, 1) := by decide +kernel
theorem q96_103 : am_look 96 103 = some (.iadd, 104, 0, 0, 0) := by decide +kernel
theorem q96_104 : am_look 96 104 = some (.iaload, 105, 0, 0, 0) := by decide +kernel
theorem q96_105 : am_look 96 105 = some (.istore 5, 107, 5, 0, 0) := by decide +kernel
theorem q96_107 : am_look 96 107 = some (.aload_n 0, 108, 0, 0, 0) := by decide +kernel
theorem q96_108 : am_look 96 108 = some (.getfield 24, 111, 262, 6, 0) := by decide +kernel
theorem q96_111 : am_look 96 111 = some (.iload 6, 113, 6, 0, 0) := by decide +kernel
theorem q96_113 : am_look 96 113 = some (.iconst 1, 114, 0, 0, 1) := by decide +kernel
theorem q96_114 : am_look 96 114 = some (.iadd, 115, 0, 0, 0) := by decide +kernel
theorem q96_115 : am_look 96 115 = some (.iload 7, 117, 7, 0, 0) := by decide +kernel
theorem q96_117 : am_look 96 117 = some (.iload 5, 119, 5, 0, 0) := by decide +kernel
theorem q96_119 : am_look 96 119 = some (.aload_n 0, 120, 0, 0, 0) := by decide +kernel
theorem q96_120 : am_look 96 120 = some (.getfield 24, 123, 262, 6, 0) := by decide +kernel
theorem q96_123 : am_look 96 123 = some (.iload 6, 125, 6, 0, 0) := by decide +kernel
theorem q96_125 : am_look 96 125 = some (.iaload, 126, 0, 0, 0) := by decide +kernel
theorem q96_126 : am_look 96 126 = some (.invokestatic 59, 129, 88, 2, 99) := by decide +kernel
theorem q96_129 : am_look 96 129 = some (.iconst 2, 130, 0, 0, 2) := by decide +kernel
theorem q96_130 : am_look 96 130 = some (.iadd, 131, 0, 0, 0) := by decide +kernel
theorem q96_131 : am_look 96 131 = some (.invokestatic 59, 134, 88, 2, 99) := by decide +kernel
theorem q96_134 : am_look 96 134 = some (.iastore, 135, 0, 0, 0) := by decide +kernel
theorem q96_135 : am_look 96 135 = some (.iinc 6 1, 138, 6, 0, 1) := by decide +kernel
theorem q96_138 : am_look 96 138 = some (.goto (-70), 141, 68, 0, 0) := by decide +kernel
theorem q96_141 : am_look 96 141 = some (.iinc 4 1, 144, 4, 0, 1) := by decide +kernel
theorem q96_144 : am_look 96 144 = some (.goto (-108), 147, 36, 0, 0) := by decide +kernel
theorem q96_147 : am_look 96 147 = some (.aload_n 0, 148, 0, 0, 0) := by decide +kernel
theorem q96_148 : am_look 96 148 = some (.getfield 24, 151, 262, 6, 0) := by decide +kernel
theorem q96_151 : am_look 96 151 = some (.iload_n 3, 152, 3, 0, 0) := by decide +kernel
theorem q96_152 : am_look 96 152 = some (.iaload, 153, 0, 0, 0) := by decide +kernel
theorem q96_153 : am_look 96 153 = some (.ireturn, 154, 0, 0, 0) := by decide +kernel
theorem zb96 : am_zb 96 = false := by decide +kernel
theorem ml96 : am_ml 96 = 8 := by decide +kernel
theorem np96 : am_np 96 + (if am_sc 96 then 0 else 1) = 3 := by decide +kernel
theorem st96 {d : Nat} {h h1 : am_H} {r : Option am_V} (p0 : Nat) (a1 : Int) (a2 : Int) (H : am_x (am_cd d) 96 (fun r2 h2 => r2 = r ∧ h2 = h1) 0 0 [some (.inr (.inr p0)), some (.inl a1), some (.inl a2), none, none, none, none, none] [] h) : am_cd (d + 1) 96 [.inr (.inr p0), .inl a1, .inl a2] h r h1 := by
  refine ⟨⟨by rw [ml96]; simp [am_en], by rw [np96]; rfl⟩, ?_⟩
  rw [ml96]; exact H
theorem q97_0 : am_look 97 0 = some (.aload_n 0, 1, 0, 0, 0) := by decide +kernel
theorem q97_1 : am_look 97 1 = some (.getfield 19, 4, 320, 0, 0) := by decide +kernel
theorem q97_4 : am_look 97 4 = some (.bipush 6, 6, 0, 0, 6) := by decide +kernel
theorem q97_6 : am_look 97 6 = some (.if_icmp .ne 7, 9, 13, 0, 0) := by decide +kernel
theorem q97_9 : am_look 97 9 = some (.aload_n 0, 10, 0, 0, 0) := by decide +kernel
theorem q97_10 : am_look 97 10 = some (.invokevirtual 23, 13, 31, 1, 5) := by decide +kernel
theorem q97_13 : am_look 97 13 = some (.aload_n 0, 14, 0, 0, 0) := by decide +kernel
theorem q97_14 : am_look 97 14 = some (.getfield 9, 17, 321, 1, 0) := by decide +kernel
theorem q97_17 : am_look 97 17 = some (.aload_n 0, 18, 0, 0, 0) := by decide +kernel
theorem q97_18 : am_look 97 18 = some (.getfield 19, 21, 320, 0, 0) := by decide +kernel
theorem q97_21 : am_look 97 21 = some (.iload_n 1, 22, 1, 0, 0) := by decide +kernel
theorem q97_22 : am_look 97 22 = some (.iastore, 23, 0, 0, 0) := by decide +kernel
theorem q97_23 : am_look 97 23 = some (.aload_n 0, 24, 0, 0, 0) := by decide +kernel
theorem q97_24 : am_look 97 24 = some (.getfield 13, 27, 322, 2, 0) := by decide +kernel
theorem q97_27 : am_look 97 27 = some (.aload_n 0, 28, 0, 0, 0) := by decide +kernel
theorem q97_28 : am_look 97 28 = some (.getfield 19, 31, 320, 0, 0) := by decide +kernel
theorem q97_31 : am_look 97 31 = some (.iload_n 2, 32, 2, 0, 0) := by decide +kernel
theorem q97_32 : am_look 97 32 = some (.iastore, 33, 0, 0, 0) := by decide +kernel
theorem q97_33 : am_look 97 33 = some (.aload_n 0, 34, 0, 0, 0) := by decide +kernel
theorem q97_34 : am_look 97 34 = some (.getfield 16, 37, 323, 3, 0) := by decide +kernel
theorem q97_37 : am_look 97 37 = some (.aload_n 0, 38, 0, 0, 0) := by decide +kernel
theorem q97_38 : am_look 97 38 = some (.getfield 19, 41, 320, 0, 0) := by decide +kernel
theorem q97_41 : am_look 97 41 = some (.iload_n 3, 42, 3, 0, 0) := by decide +kernel
theorem q97_42 : am_look 97 42 = some (.iastore, 43, 0, 0, 0) := by decide +kernel
theorem q97_43 : am_look 97 43 = some (.aload_n 0, 44, 0, 0, 0) := by decide +kernel
theorem q97_44 : am_look 97 44 = some (.dup, 45, 0, 0, 0) := by decide +kernel
theorem q97_45 : am_look 97 45 = some (.getfield 19, 48, 320, 0, 0) := by decide +kernel
theorem q97_48 : am_look 97 48 = some (.iconst 1, 49, 0, 0, 1) := by decide +kernel
theorem q97_49 : am_look 97 49 = some (.iadd, 50, 0, 0, 0) := by decide +kernel
theorem q97_50 : am_look 97 50 = some (.putfield 19, 53, 320, 0, 0) := by decide +kernel
theorem q97_53 : am_look 97 53 = some (.return_, 54, 0, 0, 0) := by decide +kernel
theorem zb97 : am_zb 97 = false := by decide +kernel
theorem ml97 : am_ml 97 = 4 := by decide +kernel
theorem np97 : am_np 97 + (if am_sc 97 then 0 else 1) = 4 := by decide +kernel
theorem st97 {d : Nat} {h h1 : am_H} {r : Option am_V} (p0 : Nat) (a1 : Int) (a2 : Int) (a3 : Int) (H : am_x (am_cd d) 97 (fun r2 h2 => r2 = r ∧ h2 = h1) 0 0 [some (.inr (.inr p0)), some (.inl a1), some (.inl a2), some (.inl a3)] [] h) : am_cd (d + 1) 97 [.inr (.inr p0), .inl a1, .inl a2, .inl a3] h r h1 := by
  refine ⟨⟨by rw [ml97]; simp [am_en], by rw [np97]; rfl⟩, ?_⟩
  rw [ml97]; exact H
theorem q98_0 : am_look 98 0 = some (.iload_n 1, 1, 1, 0, 0) := by decide +kernel
theorem q98_1 : am_look 98 1 = some (.aload_n 0, 2, 0, 0, 0) := by decide +kernel
theorem q98_2 : am_look 98 2 = some (.invokevirtual 31, 5, 38, 1, 6) := by decide +kernel
theorem q98_5 : am_look 98 5 = some (.iconst (-1), 6, 0, 0, (-1)) := by decide +kernel
theorem q98_6 : am_look 98 6 = some (.ixor, 7, 0, 0, 0) := by decide +kernel
theorem q98_7 : am_look 98 7 = some (.iand, 8, 0, 0, 0) := by decide +kernel
theorem q98_8 : am_look 98 8 = some (.ifCond .ne 7, 11, 15, 0, 0) := by decide +kernel
theorem q98_11 : am_look 98 11 = some (.iconst 1, 12, 0, 0, 1) := by decide +kernel
theorem q98_12 : am_look 98 12 = some (.goto 4, 15, 16, 0, 0) := by decide +kernel
theorem q98_15 : am_look 98 15 = some (.iconst 0, 16, 0, 0, 0) := by decide +kernel
theorem q98_16 : am_look 98 16 = some (.ireturn, 17, 0, 0, 0) := by decide +kernel
theorem zb98 : am_zb 98 = true := by decide +kernel
theorem ml98 : am_ml 98 = 2 := by decide +kernel
theorem np98 : am_np 98 + (if am_sc 98 then 0 else 1) = 2 := by decide +kernel
theorem st98 {d : Nat} {h h1 : am_H} {r : Option am_V} (p0 : Nat) (a1 : Int) (H : am_x (am_cd d) 98 (fun r2 h2 => r2 = r ∧ h2 = h1) 0 0 [some (.inr (.inr p0)), some (.inl a1)] [] h) : am_cd (d + 1) 98 [.inr (.inr p0), .inl a1] h r h1 := by
  refine ⟨⟨by rw [ml98]; simp [am_en], by rw [np98]; rfl⟩, ?_⟩
  rw [ml98]; exact H
theorem q99_0 : am_look 99 0 = some (.aload_n 0, 1, 0, 0, 0) := by decide +kernel
theorem q99_1 : am_look 99 1 = some (.getfield 21, 4, 388, 4, 0) := by decide +kernel
theorem q99_4 : am_look 99 4 = some (.aload_n 0, 5, 0, 0, 0) := by decide +kernel
theorem q99_5 : am_look 99 5 = some (.iload_n 1, 6, 1, 0, 0) := by decide +kernel
theorem q99_6 : am_look 99 6 = some (.iload_n 2, 7, 2, 0, 0) := by decide +kernel
theorem q99_7 : am_look 99 7 = some (.invokevirtual 35, 10, 45, 3, 6) := by decide +kernel
theorem q99_10 : am_look 99 10 = some (.iaload, 11, 0, 0, 0) := by decide +kernel
theorem q99_11 : am_look 99 11 = some (.ireturn, 12, 0, 0, 0) := by decide +kernel
theorem zb99 : am_zb 99 = false := by decide +kernel
theorem ml99 : am_ml 99 = 3 := by decide +kernel
theorem np99 : am_np 99 + (if am_sc 99 then 0 else 1) = 3 := by decide +kernel
theorem st99 {d : Nat} {h h1 : am_H} {r : Option am_V} (p0 : Nat) (a1 : Int) (a2 : Int) (H : am_x (am_cd d) 99 (fun r2 h2 => r2 = r ∧ h2 = h1) 0 0 [some (.inr (.inr p0)), some (.inl a1), some (.inl a2)] [] h) : am_cd (d + 1) 99 [.inr (.inr p0), .inl a1, .inl a2] h r h1 := by
  refine ⟨⟨by rw [ml99]; simp [am_en], by rw [np99]; rfl⟩, ?_⟩
  rw [ml99]; exact H
theorem q100_0 : am_look 100 0 = some (.aload_n 0, 1, 0, 0, 0) := by decide +kernel
theorem q100_1 : am_look 100 1 = some (.getfield 21, 4, 388, 4, 0) := by decide +kernel
theorem q100_4 : am_look 100 4 = some (.aload_n 0, 5, 0, 0, 0) := by decide +kernel
theorem q100_5 : am_look 100 5 = some (.iload_n 1, 6, 1, 0, 0) := by decide +kernel
theorem q100_6 : am_look 100 6 = some (.iload_n 2, 7, 2, 0, 0) := by decide +kernel
theorem q100_7 : am_look 100 7 = some (.invokevirtual 35, 10, 45, 3, 6) := by decide +kernel
theorem q100_10 : am_look 100 10 = some (.iload_n 3, 11, 3, 0, 0) := by decide +kernel
theorem q100_11 : am_look 100 11 = some (.iastore, 12, 0, 0, 0) := by decide +kernel
theorem q100_12 : am_look 100 12 = some (.aload_n 0, 13, 0, 0, 0) := by decide +kernel
theorem q100_13 : am_look 100 13 = some (.getfield 21, 16, 388, 4, 0) := by decide +kernel
theorem q100_16 : am_look 100 16 = some (.aload_n 0, 17, 0, 0, 0) := by decide +kernel
theorem q100_17 : am_look 100 17 = some (.iload_n 2, 18, 2, 0, 0) := by decide +kernel
theorem q100_18 : am_look 100 18 = some (.iload_n 1, 19, 1, 0, 0) := by decide +kernel
theorem q100_19 : am_look 100 19 = some (.invokevirtual 35, 22, 45, 3, 6) := by decide +kernel
theorem q100_22 : am_look 100 22 = some (.iload_n 3, 23, 3, 0, 0) := by decide +kernel
theorem q100_23 : am_look 100 23 = some (.iastore, 24, 0, 0, 0) := by decide +kernel
theorem q100_24 : am_look 100 24 = some (.return_, 25, 0, 0, 0) := by decide +kernel
theorem zb100 : am_zb 100 = false := by decide +kernel
theorem ml100 : am_ml 100 = 4 := by decide +kernel
theorem np100 : am_np 100 + (if am_sc 100 then 0 else 1) = 4 := by decide +kernel
theorem st100 {d : Nat} {h h1 : am_H} {r : Option am_V} (p0 : Nat) (a1 : Int) (a2 : Int) (a3 : Int) (H : am_x (am_cd d) 100 (fun r2 h2 => r2 = r ∧ h2 = h1) 0 0 [some (.inr (.inr p0)), some (.inl a1), some (.inl a2), some (.inl a3)] [] h) : am_cd (d + 1) 100 [.inr (.inr p0), .inl a1, .inl a2, .inl a3] h r h1 := by
  refine ⟨⟨by rw [ml100]; simp [am_en], by rw [np100]; rfl⟩, ?_⟩
  rw [ml100]; exact H
theorem q101_0 : am_look 101 0 = some (.iconst 0, 1, 0, 0, 0) := by decide +kernel
theorem q101_1 : am_look 101 1 = some (.istore_n 2, 2, 2, 0, 0) := by decide +kernel
theorem q101_2 : am_look 101 2 = some (.iconst 0, 3, 0, 0, 0) := by decide +kernel
theorem q101_3 : am_look 101 3 = some (.istore_n 3, 4, 3, 0, 0) := by decide +kernel
theorem q101_4 : am_look 101 4 = some (.iload_n 3, 5, 3, 0, 0) := by decide +kernel
theorem q101_5 : am_look 101 5 = some (.aload_n 0, 6, 0, 0, 0) := by decide +kernel
theorem q101_6 : am_look 101 6 = some (.getfield 20, 9, 512, 0, 0) := by decide +kernel
theorem q101_9 : am_look 101 9 = some (.invokevirtual 24, 12, 36, 1, 6) := by decide +kernel
theorem q101_12 : am_look 101 12 = some (.if_icmp .ge 58, 15, 70, 0, 0) := by decide +kernel
theorem q101_15 : am_look 101 15 = some (.aload_n 0, 16, 0, 0, 0) := by decide +kernel
theorem q101_16 : am_look 101 16 = some (.getfield 11, 19, 513, 1, 0) := by decide +kernel
theorem q101_19 : am_look 101 19 = some (.iload_n 3, 20, 3, 0, 0) := by decide +kernel
theorem q101_20 : am_look 101 20 = some (.iaload, 21, 0, 0, 0) := by decide +kernel
theorem q101_21 : am_look 101 21 = some (.iload_n 1, 22, 1, 0, 0) := by decide +kernel
theorem q101_22 : am_look 101 22 = some (.iand, 23, 0, 0, 0) := by decide +kernel
theorem q101_23 : am_look 101 23 = some (.istore 4, 25, 4, 0, 0) := by decide +kernel
theorem q101_25 : am_look 101 25 = some (.iload_n 1, 26, 1, 0, 0) := by decide +kernel
theorem q101_26 : am_look 101 26 = some (.iconst 1, 27, 0, 0, 1) := by decide +kernel
theorem q101_27 : am_look 101 27 = some (.iload_n 3, 28, 3, 0, 0) := by decide +kernel
theorem q101_28 : am_look 101 28 = some (.ishl, 29, 0, 0, 0) := by decide +kernel
theorem q101_29 : am_look 101 29 = some (.iand, 30, 0, 0, 0) := by decide +kernel
theorem q101_30 : am_look 101 30 = some (.ifCond .ne 34, 33, 64, 0, 0) := by decide +kernel
theorem q101_33 : am_look 101 33 = some (.iload 4, 35, 4, 0, 0) := by decide +kernel
theorem q101_35 : am_look 101 35 = some (.ifCond .eq 29, 38, 64, 0, 0) := by decide +kernel
theorem q101_38 : am_look 101 38 = some (.iconst 2, 39, 0, 0, 2) := by decide +kernel
theorem q101_39 : am_look 101 39 = some (.aload_n 0, 40, 0, 0, 0) := by decide +kernel
theorem q101_40 : am_look 101 40 = some (.getfield 20, 43, 512, 0, 0) := by decide +kernel
theorem q101_43 : am_look 101 43 = some (.iload 4, 45, 4, 0, 0) := by decide +kernel
theorem q101_45 : am_look 101 45 = some (.invokevirtual 32, 48, 44, 2, 6) := by decide +kernel
theorem q101_48 : am_look 101 48 = some (.imul, 49, 0, 0, 0) := by decide +kernel
theorem q101_49 : am_look 101 49 = some (.aload_n 0, 50, 0, 0, 0) := by decide +kernel
theorem q101_50 : am_look 101 50 = some (.getfield 17, 53, 514, 2, 0) := by decide +kernel
theorem q101_53 : am_look 101 53 = some (.iload_n 3, 54, 3, 0, 0) := by decide +kernel
theorem q101_54 : am_look 101 54 = some (.iaload, 55, 0, 0, 0) := by decide +kernel
theorem q101_55 : am_look 101 55 = some (.if_icmp .lt 9, 58, 64, 0, 0) := by decide +kernel
theorem q101_58 : am_look 101 58 = some (.iload_n 2, 59, 2, 0, 0) := by decide +kernel
theorem q101_59 : am_look 101 59 = some (.iconst 1, 60, 0, 0, 1) := by decide +kernel
theorem q101_60 : am_look 101 60 = some (.iload_n 3, 61, 3, 0, 0) := by decide +kernel
theorem q101_61 : am_look 101 61 = some (.ishl, 62, 0, 0, 0) := by decide +kernel
theorem q101_62 : am_look 101 62 = some (.ior, 63, 0, 0, 0) := by decide +kernel
theorem q101_63 : am_look 101 63 = some (.istore_n 2, 64, 2, 0, 0) := by decide +kernel
theorem q101_64 : am_look 101 64 = some (.iinc 3 1, 67, 3, 0, 1) := by decide +kernel
theorem q101_67 : am_look 101 67 = some (.goto (-63), 70, 4, 0, 0) := by decide +kernel
theorem q101_70 : am_look 101 70 = some (.iload_n 2, 71, 2, 0, 0) := by decide +kernel
theorem q101_71 : am_look 101 71 = some (.ireturn, 72, 0, 0, 0) := by decide +kernel
theorem zb101 : am_zb 101 = false := by decide +kernel
theorem ml101 : am_ml 101 = 5 := by decide +kernel
theorem np101 : am_np 101 + (if am_sc 101 then 0 else 1) = 2 := by decide +kernel
theorem st101 {d : Nat} {h h1 : am_H} {r : Option am_V} (p0 : Nat) (a1 : Int) (H : am_x (am_cd d) 101 (fun r2 h2 => r2 = r ∧ h2 = h1) 0 0 [some (.inr (.inr p0)), some (.inl a1), none, none, none] [] h) : am_cd (d + 1) 101 [.inr (.inr p0), .inl a1] h r h1 := by
  refine ⟨⟨by rw [ml101]; simp [am_en], by rw [np101]; rfl⟩, ?_⟩
  rw [ml101]; exact H
theorem q102_0 : am_look 102 0 = some (.iload_n 0, 1, 0, 0, 0) := by decide +kernel
theorem q102_1 : am_look 102 1 = some (.tableswitch 146 0 6 #[43, 50, 64, 85, 119, 105, 119], 44, 0, 0, 0) := by decide +kernel
theorem q102_44 : am_look 102 44 = some (.iload_n 1, 45, 1, 0, 0) := by decide +kernel
theorem q102_45 : am_look 102 45 = some (.invokestatic 57, 48, 63, 1, 99) := by decide +kernel
theorem q102_48 : am_look 102 48 = some (.goto 110, 51, 158, 0, 0) := by decide +kernel
theorem q102_51 : am_look 102 51 = some (.iload_n 1, 52, 1, 0, 0) := by decide +kernel
theorem q102_52 : am_look 102 52 = some (.bipush 62, 54, 0, 0, 62) := by decide +kernel
theorem q102_54 : am_look 102 54 = some (.if_icmp .ne 7, 57, 61, 0, 0) := by decide +kernel
theorem q102_57 : am_look 102 57 = some (.iconst 1, 58, 0, 0, 1) := by decide +kernel
theorem q102_58 : am_look 102 58 = some (.goto 100, 61, 158, 0, 0) := by decide +kernel
theorem q102_61 : am_look 102 61 = some (.iconst 0, 62, 0, 0, 0) := by decide +kernel
theorem q102_62 : am_look 102 62 = some (.goto 96, 65, 158, 0, 0) := by decide +kernel
theorem q102_65 : am_look 102 65 = some (.iload_n 1, 66, 1, 0, 0) := by decide +kernel
theorem q102_66 : am_look 102 66 = some (.invokestatic 57, 69, 63, 1, 99) := by decide +kernel
theorem q102_69 : am_look 102 69 = some (.ifCond .ne 9, 72, 78, 0, 0) := by decide +kernel
theorem q102_72 : am_look 102 72 = some (.iload_n 1, 73, 1, 0, 0) := by decide +kernel
theorem q102_73 : am_look 102 73 = some (.bipush 48, 75, 0, 0, 48) := by decide +kernel
theorem q102_75 : am_look 102 75 = some (.if_icmp .ne 7, 78, 82, 0, 0) := by decide +kernel
theorem q102_78 : am_look 102 78 = some (.iconst 1, 79, 0, 0, 1) := by decide +kernel
theorem q102_79 : am_look 102 79 = some (.goto 79, 82, 158, 0, 0) := by decide +kernel
theorem q102_82 : am_look 102 82 = some (.iconst 0, 83, 0, 0, 0) := by decide +kernel
theorem q102_83 : am_look 102 83 = some (.goto 75, 86, 158, 0, 0) := by decide +kernel
theorem q102_86 : am_look 102 86 = some (.iload_n 1, 87, 1, 0, 0) := by decide +kernel
theorem q102_87 : am_look 102 87 = some (.bipush 47, 89, 0, 0, 47) := by decide +kernel
theorem q102_89 : am_look 102 89 = some (.if_icmp .eq 9, 92, 98, 0, 0) := by decide +kernel
theorem q102_92 : am_look 102 92 = some (.iload_n 1, 93, 1, 0, 0) := by decide +kernel
theorem q102_93 : am_look 102 93 = some (.bipush 59, 95, 0, 0, 59) := by decide +kernel
theorem q102_95 : am_look 102 95 = some (.if_icmp .ne 7, 98, 102, 0, 0) := by decide +kernel
theorem q102_98 : am_look 102 98 = some (.iconst 1, 99, 0, 0, 1) := by decide +kernel
theorem q102_99 : am_look 102 99 = some (.goto 59, 102, 158, 0, 0) := by decide +kernel
theorem q102_102 : am_look 102 102 = some (.iconst 0, 103, 0, 0, 0) := by decide +kernel
theorem q102_103 : am_look 102 103 = some (.goto 55, 106, 158, 0, 0) := by decide +kernel
theorem q102_106 : am_look 102 106 = some (.iload_n 1, 107, 1, 0, 0) := by decide +kernel
theorem q102_107 : am_look 102 107 = some (.bipush 95, 109, 0, 0, 95) := by decide +kernel
theorem q102_109 : am_look 102 109 = some (.if_icmp .ne 7, 112, 116, 0, 0) := by decide +kernel
theorem q102_112 : am_look 102 112 = some (.iconst 1, 113, 0, 0, 1) := by decide +kernel
theorem q102_113 : am_look 102 113 = some (.goto 45, 116, 158, 0, 0) := by decide +kernel
theorem q102_116 : am_look 102 116 = some (.iconst 0, 117, 0, 0, 0) := by decide +kernel
theorem q102_117 : am_look 102 117 = some (.goto 41, 120, 158, 0, 0) := by decide +kernel
theorem q102_120 : am_look 102 120 = some (.iload_n 1, 121, 1, 0, 0) := by decide +kernel
theorem q102_121 : am_look 102 121 = some (.invokestatic 57, 124, 63, 1, 99) := by decide +kernel
theorem q102_124 : am_look 102 124 = some (.ifCond .ne 15, 127, 139, 0, 0) := by decide +kernel
theorem q102_127 : am_look 102 127 = some (.iload_n 1, 128, 1, 0, 0) := by decide +kernel
theorem q102_128 : am_look 102 128 = some (.bipush 35, 130, 0, 0, 35) := by decide +kernel
theorem q102_130 : am_look 102 130 = some (.if_icmp .eq 9, 133, 139, 0, 0) := by decide +kernel
theorem q102_133 : am_look 102 133 = some (.iload_n 1, 134, 1, 0, 0) := by decide +kernel
theorem q102_134 : am_look 102 134 = some (.bipush 42, 136, 0, 0, 42) := by decide +kernel
theorem q102_136 : am_look 102 136 = some (.if_icmp .ne 7, 139, 143, 0, 0) := by decide +kernel
theorem q102_139 : am_look 102 139 = some (.iconst 1, 140, 0, 0, 1) := by decide +kernel
theorem q102_140 : am_look 102 140 = some (.goto 18, 143, 158, 0, 0) := by decide +kernel
theorem q102_143 : am_look 102 143 = some (.iconst 0, 144, 0, 0, 0) := by decide +kernel
theorem q102_144 : am_look 102 144 = some (.goto 14, 147, 158, 0, 0) := by decide +kernel
theorem q102_147 : am_look 102 147 = some (.iload_n 1, 148, 1, 0, 0) := by decide +kernel
theorem q102_148 : am_look 102 148 = some (.bipush 59, 150, 0, 0, 59) := by decide +kernel
theorem q102_150 : am_look 102 150 = some (.if_icmp .ne 7, 153, 157, 0, 0) := by decide +kernel
theorem q102_153 : am_look 102 153 = some (.iconst 1, 154, 0, 0, 1) := by decide +kernel
theorem q102_154 : am_look 102 154 = some (.goto 4, 157, 158, 0, 0) := by decide +kernel
theorem q102_157 : am_look 102 157 = some (.iconst 0, 158, 0, 0, 0) := by decide +kernel
theorem q102_158 : am_look 102 158 = some (.ireturn, 159, 0, 0, 0) := by decide +kernel
theorem zb102 : am_zb 102 = true := by decide +kernel
theorem ml102 : am_ml 102 = 2 := by decide +kernel
theorem np102 : am_np 102 + (if am_sc 102 then 0 else 1) = 2 := by decide +kernel
theorem st102 {d : Nat} {h h1 : am_H} {r : Option am_V} (a1 : Int) (a2 : Int) (H : am_x (am_cd d) 102 (fun r2 h2 => r2 = r ∧ h2 = h1) 0 0 [some (.inl a1), some (.inl a2)] [] h) : am_cd (d + 1) 102 [.inl a1, .inl a2] h r h1 := by
  refine ⟨⟨by rw [ml102]; simp [am_en], by rw [np102]; rfl⟩, ?_⟩
  rw [ml102]; exact H
theorem q103_0 : am_look 103 0 = some (.iload_n 0, 1, 0, 0, 0) := by decide +kernel
theorem q103_1 : am_look 103 1 = some (.invokestatic 57, 4, 63, 1, 99) := by decide +kernel
theorem q103_4 : am_look 103 4 = some (.ifCond .eq 8, 7, 12, 0, 0) := by decide +kernel
theorem q103_7 : am_look 103 7 = some (.iload_n 0, 8, 0, 0, 0) := by decide +kernel
theorem q103_8 : am_look 103 8 = some (.bipush 97, 10, 0, 0, 97) := by decide +kernel
theorem q103_10 : am_look 103 10 = some (.isub, 11, 0, 0, 0) := by decide +kernel
theorem q103_11 : am_look 103 11 = some (.ireturn, 12, 0, 0, 0) := by decide +kernel
theorem q103_12 : am_look 103 12 = some (.iload_n 0, 13, 0, 0, 0) := by decide +kernel
theorem q103_13 : am_look 103 13 = some (.bipush 35, 15, 0, 0, 35) := by decide +kernel
theorem q103_15 : am_look 103 15 = some (.if_icmp .ne 8, 18, 23, 0, 0) := by decide +kernel
theorem q103_18 : am_look 103 18 = some (.bipush 26, 20, 0, 0, 26) := by decide +kernel
theorem q103_20 : am_look 103 20 = some (.goto 15, 23, 35, 0, 0) := by decide +kernel
theorem q103_23 : am_look 103 23 = some (.iload_n 0, 24, 0, 0, 0) := by decide +kernel
theorem q103_24 : am_look 103 24 = some (.bipush 42, 26, 0, 0, 42) := by decide +kernel
theorem q103_26 : am_look 103 26 = some (.if_icmp .ne 8, 29, 34, 0, 0) := by decide +kernel
theorem q103_29 : am_look 103 29 = some (.bipush 27, 31, 0, 0, 27) := by decide +kernel
theorem q103_31 : am_look 103 31 = some (.goto 4, 34, 35, 0, 0) := by decide +kernel
theorem q103_34 : am_look 103 34 = some (.iconst (-1), 35, 0, 0, (-1)) := by decide +kernel
theorem q103_35 : am_look 103 35 = some (.ireturn, 36, 0, 0, 0) := by decide +kernel
theorem zb103 : am_zb 103 = false := by decide +kernel
theorem ml103 : am_ml 103 = 1 := by decide +kernel
theorem np103 : am_np 103 + (if am_sc 103 then 0 else 1) = 1 := by decide +kernel
theorem st103 {d : Nat} {h h1 : am_H} {r : Option am_V} (a1 : Int) (H : am_x (am_cd d) 103 (fun r2 h2 => r2 = r ∧ h2 = h1) 0 0 [some (.inl a1)] [] h) : am_cd (d + 1) 103 [.inl a1] h r h1 := by
  refine ⟨⟨by rw [ml103]; simp [am_en], by rw [np103]; rfl⟩, ?_⟩
  rw [ml103]; exact H
theorem q104_0 : am_look 104 0 = some (.iconst 0, 1, 0, 0, 0) := by decide +kernel
theorem q104_1 : am_look 104 1 = some (.istore_n 2, 2, 2, 0, 0) := by decide +kernel
theorem q104_2 : am_look 104 2 = some (.bipush 26, 4, 0, 0, 26) := by decide +kernel
theorem q104_4 : am_look 104 4 = some (.istore_n 3, 5, 3, 0, 0) := by decide +kernel
theorem q104_5 : am_look 104 5 = some (.iconst 0, 6, 0, 0, 0) := by decide +kernel
theorem q104_6 : am_look 104 6 = some (.istore 4, 8, 4, 0, 0) := by decide +kernel
theorem q104_8 : am_look 104 8 = some (.iload 4, 10, 4, 0, 0) := by decide +kernel
theorem q104_10 : am_look 104 10 = some (.aload_n 0, 11, 0, 0, 0) := by decide +kernel
theorem q104_11 : am_look 104 11 = some (.getfield 68, 14, 584, 8, 0) := by decide +kernel
theorem q104_14 : am_look 104 14 = some (.if_icmp .ge 128, 17, 142, 0, 0) := by decide +kernel
theorem q104_17 : am_look 104 17 = some (.aload_n 0, 18, 0, 0, 0) := by decide +kernel
theorem q104_18 : am_look 104 18 = some (.getfield 32, 21, 585, 9, 0) := by decide +kernel
theorem q104_21 : am_look 104 21 = some (.iload 4, 23, 4, 0, 0) := by decide +kernel
theorem q104_23 : am_look 104 23 = some (.iaload, 24, 0, 0, 0) := by decide +kernel
theorem q104_24 : am_look 104 24 = some (.istore 5, 26, 5, 0, 0) := by decide +kernel
theorem q104_26 : am_look 104 26 = some (.iload 4, 28, 4, 0, 0) := by decide +kernel
theorem q104_28 : am_look 104 28 = some (.iconst 1, 29, 0, 0, 1) := by decide +kernel
theorem q104_29 : am_look 104 29 = some (.iadd, 30, 0, 0, 0) := by decide +kernel
theorem q104_30 : am_look 104 30 = some (.aload_n 0, 31, 0, 0, 0) := by decide +kernel
theorem q104_31 : am_look 104 31 = some (.getfield 68, 34, 584, 8, 0) := by decide +kernel
theorem q104_34 : am_look 104 34 = some (.if_icmp .ge 15, 37, 49, 0, 0) := by decide +kernel
theorem q104_37 : am_look 104 37 = some (.aload_n 0, 38, 0, 0, 0) := by decide +kernel
theorem q104_38 : am_look 104 38 = some (.getfield 32, 41, 585, 9, 0) := by decide +kernel
theorem q104_41 : am_look 104 41 = some (.iload 4, 43, 4, 0, 0) := by decide +kernel
theorem q104_43 : am_look 104 43 = some (.iconst 1, 44, 0, 0, 1) := by decide +kernel
theorem q104_44 : am_look 104 44 = some (.iadd, 45, 0, 0, 0) := by decide +kernel
theorem q104_45 : am_look 104 45 = some (.iaload, 46, 0, 0, 0) := by decide +kernel
theorem q104_46 : am_look 104 46 = some (.goto 5, 49, 51, 0, 0) := by decide +kernel
theorem q104_49 : am_look 104 49 = some (.bipush 26, 51, 0, 0, 26) := by decide +kernel
theorem q104_51 : am_look 104 51 = some (.istore 6, 53, 6, 0, 0) := by decide +kernel
theorem q104_53 : am_look 104 53 = some (.iload 5, 55, 5, 0, 0) := by decide +kernel
theorem q104_55 : am_look 104 55 = some (.aload_n 0, 56, 0, 0, 0) := by decide +kernel
theorem q104_56 : am_look 104 56 = some (.getfield 18, 59, 580, 4, 0) := by decide +kernel
theorem q104_59 : am_look 104 59 = some (.iload_n 1, 60, 1, 0, 0) := by decide +kernel
theorem q104_60 : am_look 104 60 = some (.iaload, 61, 0, 0, 0) := by decide +kernel
theorem q104_61 : am_look 104 61 = some (.if_icmp .ne 34, 64, 95, 0, 0) := by decide +kernel
theorem q104_64 : am_look 104 64 = some (.aload_n 0, 65, 0, 0, 0) := by decide +kernel
theorem q104_65 : am_look 104 65 = some (.getfield 24, 68, 582, 6, 0) := by decide +kernel
theorem q104_68 : am_look 104 68 = some (.iload_n 1, 69, 1, 0, 0) := by decide +kernel
theorem q104_69 : am_look 104 69 = some (.iaload, 70, 0, 0, 0) := by decide +kernel
theorem q104_70 : am_look 104 70 = some (.iload_n 3, 71, 3, 0, 0) := by decide +kernel
theorem q104_71 : am_look 104 71 = some (.invokestatic 78, 74, 65, 2, 99) := by decide +kernel
theorem q104_74 : am_look 104 74 = some (.ifCond .eq 21, 77, 95, 0, 0) := by decide +kernel
theorem q104_77 : am_look 104 77 = some (.aload_n 0, 78, 0, 0, 0) := by decide +kernel
theorem q104_78 : am_look 104 78 = some (.getfield 27, 81, 583, 7, 0) := by decide +kernel
theorem q104_81 : am_look 104 81 = some (.iload_n 1, 82, 1, 0, 0) := by decide +kernel
theorem q104_82 : am_look 104 82 = some (.iaload, 83, 0, 0, 0) := by decide +kernel
theorem q104_83 : am_look 104 83 = some (.iload 6, 85, 6, 0, 0) := by decide +kernel
theorem q104_85 : am_look 104 85 = some (.invokestatic 78, 88, 65, 2, 99) := by decide +kernel
theorem q104_88 : am_look 104 88 = some (.ifCond .eq 7, 91, 95, 0, 0) := by decide +kernel
theorem q104_91 : am_look 104 91 = some (.iconst 1, 92, 0, 0, 1) := by decide +kernel
theorem q104_92 : am_look 104 92 = some (.goto 4, 95, 96, 0, 0) := by decide +kernel
theorem q104_95 : am_look 104 95 = some (.iconst 0, 96, 0, 0, 0) := by decide +kernel
theorem q104_96 : am_look 104 96 = some (.istore 7, 98, 7, 0, 0) := by decide +kernel
theorem q104_98 : am_look 104 98 = some (.iload 7, 100, 7, 0, 0) := by decide +kernel
theorem q104_100 : am_look 104 100 = some (.ifCond .eq 12, 103, 112, 0, 0) := by decide +kernel
theorem q104_103 : am_look 104 103 = some (.aload_n 0, 104, 0, 0, 0) := by decide +kernel
theorem q104_104 : am_look 104 104 = some (.getfield 21, 107, 581, 5, 0) := by decide +kernel
theorem q104_107 : am_look 104 107 = some (.iload_n 1, 108, 1, 0, 0) := by decide +kernel
theorem q104_108 : am_look 104 108 = some (.iaload, 109, 0, 0, 0) := by decide +kernel
theorem q104_109 : am_look 104 109 = some (.goto 5, 112, 114, 0, 0) := by decide +kernel
theorem q104_112 : am_look 104 112 = some (.iload 5, 114, 5, 0, 0) := by decide +kernel
theorem q104_114 : am_look 104 114 = some (.istore 8, 116, 8, 0, 0) := by decide +kernel
theorem q104_116 : am_look 104 116 = some (.iload 8, 118, 8, 0, 0) := by decide +kernel
theorem q104_118 : am_look 104 118 = some (.iconst (-1), 119, 0, 0, (-1)) := by decide +kernel
theorem q104_119 : am_look 104 119 = some (.if_icmp .eq 14, 122, 133, 0, 0) := by decide +kernel
theorem q104_122 : am_look 104 122 = some (.aload_n 0, 123, 0, 0, 0) := by decide +kernel
theorem q104_123 : am_look 104 123 = some (.getfield 32, 126, 585, 9, 0) := by decide +kernel
theorem q104_126 : am_look 104 126 = some (.iload_n 2, 127, 2, 0, 0) := by decide +kernel
theorem q104_127 : am_look 104 127 = some (.iload 8, 129, 8, 0, 0) := by decide +kernel
theorem q104_129 : am_look 104 129 = some (.iastore, 130, 0, 0, 0) := by decide +kernel
theorem q104_130 : am_look 104 130 = some (.iinc 2 1, 133, 2, 0, 1) := by decide +kernel
theorem q104_133 : am_look 104 133 = some (.iload 5, 135, 5, 0, 0) := by decide +kernel
theorem q104_135 : am_look 104 135 = some (.istore_n 3, 136, 3, 0, 0) := by decide +kernel
theorem q104_136 : am_look 104 136 = some (.iinc 4 1, 139, 4, 0, 1) := by decide +kernel
theorem q104_139 : am_look 104 139 = some (.goto (-131), 142, 8, 0, 0) := by decide +kernel
theorem q104_142 : am_look 104 142 = some (.aload_n 0, 143, 0, 0, 0) := by decide +kernel
theorem q104_143 : am_look 104 143 = some (.iload_n 2, 144, 2, 0, 0) := by decide +kernel
theorem q104_144 : am_look 104 144 = some (.putfield 68, 147, 584, 8, 0) := by decide +kernel
theorem q104_147 : am_look 104 147 = some (.return_, 148, 0, 0, 0) := by decide +kernel
theorem zb104 : am_zb 104 = false := by decide +kernel
theorem ml104 : am_ml 104 = 9 := by decide +kernel
theorem np104 : am_np 104 + (if am_sc 104 then 0 else 1) = 2 := by decide +kernel
theorem st104 {d : Nat} {h h1 : am_H} {r : Option am_V} (p0 : Nat) (a1 : Int) (H : am_x (am_cd d) 104 (fun r2 h2 => r2 = r ∧ h2 = h1) 0 0 [some (.inr (.inr p0)), some (.inl a1), none, none, none, none, none, none, none] [] h) : am_cd (d + 1) 104 [.inr (.inr p0), .inl a1] h r h1 := by
  refine ⟨⟨by rw [ml104]; simp [am_en], by rw [np104]; rfl⟩, ?_⟩
  rw [ml104]; exact H
theorem q105_0 : am_look 105 0 = some (.iconst (-1), 1, 0, 0, (-1)) := by decide +kernel
theorem q105_1 : am_look 105 1 = some (.istore_n 3, 2, 3, 0, 0) := by decide +kernel
theorem q105_2 : am_look 105 2 = some (.iconst 0, 3, 0, 0, 0) := by decide +kernel
theorem q105_3 : am_look 105 3 = some (.istore 4, 5, 4, 0, 0) := by decide +kernel
theorem q105_5 : am_look 105 5 = some (.iload 4, 7, 4, 0, 0) := by decide +kernel
theorem q105_7 : am_look 105 7 = some (.aload_n 0, 8, 0, 0, 0) := by decide +kernel
theorem q105_8 : am_look 105 8 = some (.getfield 36, 11, 641, 1, 0) := by decide +kernel
theorem q105_11 : am_look 105 11 = some (.if_icmp .ge 56, 14, 67, 0, 0) := by decide +kernel
theorem q105_14 : am_look 105 14 = some (.iload_n 1, 15, 1, 0, 0) := by decide +kernel
theorem q105_15 : am_look 105 15 = some (.iconst 1, 16, 0, 0, 1) := by decide +kernel
theorem q105_16 : am_look 105 16 = some (.iload 4, 18, 4, 0, 0) := by decide +kernel
theorem q105_18 : am_look 105 18 = some (.ishl, 19, 0, 0, 0) := by decide +kernel
theorem q105_19 : am_look 105 19 = some (.iand, 20, 0, 0, 0) := by decide +kernel
theorem q105_20 : am_look 105 20 = some (.ifCond .ne 7, 23, 27, 0, 0) := by decide +kernel
theorem q105_23 : am_look 105 23 = some (.iconst 1, 24, 0, 0, 1) := by decide +kernel
theorem q105_24 : am_look 105 24 = some (.goto 4, 27, 28, 0, 0) := by decide +kernel
theorem q105_27 : am_look 105 27 = some (.iconst 0, 28, 0, 0, 0) := by decide +kernel
theorem q105_28 : am_look 105 28 = some (.istore 5, 30, 5, 0, 0) := by decide +kernel
theorem q105_30 : am_look 105 30 = some (.iload 5, 32, 5, 0, 0) := by decide +kernel
theorem q105_32 : am_look 105 32 = some (.ifCond .eq 29, 35, 61, 0, 0) := by decide +kernel
theorem q105_35 : am_look 105 35 = some (.iload_n 3, 36, 3, 0, 0) := by decide +kernel
theorem q105_36 : am_look 105 36 = some (.iconst (-1), 37, 0, 0, (-1)) := by decide +kernel
theorem q105_37 : am_look 105 37 = some (.if_icmp .eq 21, 40, 58, 0, 0) := by decide +kernel
theorem q105_40 : am_look 105 40 = some (.aload_n 0, 41, 0, 0, 0) := by decide +kernel
theorem q105_41 : am_look 105 41 = some (.iload_n 1, 42, 1, 0, 0) := by decide +kernel
theorem q105_42 : am_look 105 42 = some (.iload_n 2, 43, 2, 0, 0) := by decide +kernel
theorem q105_43 : am_look 105 43 = some (.iload 4, 45, 4, 0, 0) := by decide +kernel
theorem q105_45 : am_look 105 45 = some (.invokevirtual 63, 48, 69, 4, 10) := by decide +kernel
theorem q105_48 : am_look 105 48 = some (.aload_n 0, 49, 0, 0, 0) := by decide +kernel
theorem q105_49 : am_look 105 49 = some (.iload_n 1, 50, 1, 0, 0) := by decide +kernel
theorem q105_50 : am_look 105 50 = some (.iload_n 2, 51, 2, 0, 0) := by decide +kernel
theorem q105_51 : am_look 105 51 = some (.iload_n 3, 52, 3, 0, 0) := by decide +kernel
theorem q105_52 : am_look 105 52 = some (.invokevirtual 63, 55, 69, 4, 10) := by decide +kernel
theorem q105_55 : am_look 105 55 = some (.if_icmp .ge 6, 58, 61, 0, 0) := by decide +kernel
theorem q105_58 : am_look 105 58 = some (.iload 4, 60, 4, 0, 0) := by decide +kernel
theorem q105_60 : am_look 105 60 = some (.istore_n 3, 61, 3, 0, 0) := by decide +kernel
theorem q105_61 : am_look 105 61 = some (.iinc 4 1, 64, 4, 0, 1) := by decide +kernel
theorem q105_64 : am_look 105 64 = some (.goto (-59), 67, 5, 0, 0) := by decide +kernel
theorem q105_67 : am_look 105 67 = some (.iload_n 3, 68, 3, 0, 0) := by decide +kernel
theorem q105_68 : am_look 105 68 = some (.ireturn, 69, 0, 0, 0) := by decide +kernel
theorem zb105 : am_zb 105 = false := by decide +kernel
theorem ml105 : am_ml 105 = 6 := by decide +kernel
theorem np105 : am_np 105 + (if am_sc 105 then 0 else 1) = 3 := by decide +kernel
theorem st105 {d : Nat} {h h1 : am_H} {r : Option am_V} (p0 : Nat) (a1 : Int) (a2 : Int) (H : am_x (am_cd d) 105 (fun r2 h2 => r2 = r ∧ h2 = h1) 0 0 [some (.inr (.inr p0)), some (.inl a1), some (.inl a2), none, none, none] [] h) : am_cd (d + 1) 105 [.inr (.inr p0), .inl a1, .inl a2] h r h1 := by
  refine ⟨⟨by rw [ml105]; simp [am_en], by rw [np105]; rfl⟩, ?_⟩
  rw [ml105]; exact H
theorem q106_0 : am_look 106 0 = some (.aload_n 0, 1, 0, 0, 0) := by decide +kernel
theorem q106_1 : am_look 106 1 = some (.getfield 19, 4, 705, 1, 0) := by decide +kernel
theorem q106_4 : am_look 106 4 = some (.iload_n 1, 5, 1, 0, 0) := by decide +kernel
theorem q106_5 : am_look 106 5 = some (.invokevirtual 158, 8, 11, 2, 1) := by decide +kernel
theorem q106_8 : am_look 106 8 = some (.ifCond .eq 10, 11, 18, 0, 0) := by decide +kernel
theorem q106_11 : am_look 106 11 = some (.iload_n 2, 12, 2, 0, 0) := by decide +kernel
theorem q106_12 : am_look 106 12 = some (.invokestatic 150, 15, 9, 1, 99) := by decide +kernel
theorem q106_15 : am_look 106 15 = some (.ifCond .ne 10, 18, 25, 0, 0) := by decide +kernel
theorem q106_18 : am_look 106 18 = some (.aload_n 0, 19, 0, 0, 0) := by decide +kernel
theorem q106_19 : am_look 106 19 = some (.ldc 100, 21, 0, 0, (-100001)) := by decide +kernel
theorem q106_21 : am_look 106 21 = some (.invokevirtual 101, 24, 70, 2, 11) := by decide +kernel
theorem q106_24 : am_look 106 24 = some (.ireturn, 25, 0, 0, 0) := by decide +kernel
theorem q106_25 : am_look 106 25 = some (.aload_n 0, 26, 0, 0, 0) := by decide +kernel
theorem q106_26 : am_look 106 26 = some (.getfield 19, 29, 705, 1, 0) := by decide +kernel
theorem q106_29 : am_look 106 29 = some (.iload_n 1, 30, 1, 0, 0) := by decide +kernel
theorem q106_30 : am_look 106 30 = some (.iload_n 2, 31, 2, 0, 0) := by decide +kernel
theorem q106_31 : am_look 106 31 = some (.invokevirtual 159, 34, 15, 3, 1) := by decide +kernel
theorem q106_34 : am_look 106 34 = some (.ifCond .eq 14, 37, 48, 0, 0) := by decide +kernel
theorem q106_37 : am_look 106 37 = some (.aload_n 0, 38, 0, 0, 0) := by decide +kernel
theorem q106_38 : am_look 106 38 = some (.getfield 19, 41, 705, 1, 0) := by decide +kernel
theorem q106_41 : am_look 106 41 = some (.iload_n 1, 42, 1, 0, 0) := by decide +kernel
theorem q106_42 : am_look 106 42 = some (.invokevirtual 163, 45, 16, 2, 1) := by decide +kernel
theorem q106_45 : am_look 106 45 = some (.goto 9, 48, 54, 0, 0) := by decide +kernel
theorem q106_48 : am_look 106 48 = some (.aload_n 0, 49, 0, 0, 0) := by decide +kernel
theorem q106_49 : am_look 106 49 = some (.ldc 166, 51, 0, 0, (-100004)) := by decide +kernel
theorem q106_51 : am_look 106 51 = some (.invokevirtual 101, 54, 70, 2, 11) := by decide +kernel
theorem q106_54 : am_look 106 54 = some (.ireturn, 55, 0, 0, 0) := by decide +kernel
theorem zb106 : am_zb 106 = false := by decide +kernel
theorem ml106 : am_ml 106 = 3 := by decide +kernel
theorem np106 : am_np 106 + (if am_sc 106 then 0 else 1) = 3 := by decide +kernel
theorem st106 {d : Nat} {h h1 : am_H} {r : Option am_V} (p0 : Nat) (a1 : Int) (a2 : Int) (H : am_x (am_cd d) 106 (fun r2 h2 => r2 = r ∧ h2 = h1) 0 0 [some (.inr (.inr p0)), some (.inl a1), some (.inl a2)] [] h) : am_cd (d + 1) 106 [.inr (.inr p0), .inl a1, .inl a2] h r h1 := by
  refine ⟨⟨by rw [ml106]; simp [am_en], by rw [np106]; rfl⟩, ?_⟩
  rw [ml106]; exact H
theorem q107_0 : am_look 107 0 = some (.aload_n 0, 1, 0, 0, 0) := by decide +kernel
theorem q107_1 : am_look 107 1 = some (.getfield 26, 4, 706, 2, 0) := by decide +kernel
theorem q107_4 : am_look 107 4 = some (.iload_n 1, 5, 1, 0, 0) := by decide +kernel
theorem q107_5 : am_look 107 5 = some (.invokevirtual 178, 8, 24, 2, 4) := by decide +kernel
theorem q107_8 : am_look 107 8 = some (.ifCond .eq 20, 11, 28, 0, 0) := by decide +kernel
theorem q107_11 : am_look 107 11 = some (.iload_n 2, 12, 2, 0, 0) := by decide +kernel
theorem q107_12 : am_look 107 12 = some (.iconst (-1), 13, 0, 0, (-1)) := by decide +kernel
theorem q107_13 : am_look 107 13 = some (.if_icmp .lt 15, 16, 28, 0, 0) := by decide +kernel
theorem q107_16 : am_look 107 16 = some (.iload_n 2, 17, 2, 0, 0) := by decide +kernel
theorem q107_17 : am_look 107 17 = some (.aload_n 0, 18, 0, 0, 0) := by decide +kernel
theorem q107_18 : am_look 107 18 = some (.getfield 26, 21, 706, 2, 0) := by decide +kernel
theorem q107_21 : am_look 107 21 = some (.iload_n 1, 22, 1, 0, 0) := by decide +kernel
theorem q107_22 : am_look 107 22 = some (.invokevirtual 179, 25, 25, 2, 4) := by decide +kernel
theorem q107_25 : am_look 107 25 = some (.if_icmp .lt 10, 28, 35, 0, 0) := by decide +kernel
theorem q107_28 : am_look 107 28 = some (.aload_n 0, 29, 0, 0, 0) := by decide +kernel
theorem q107_29 : am_look 107 29 = some (.ldc 100, 31, 0, 0, (-100001)) := by decide +kernel
theorem q107_31 : am_look 107 31 = some (.invokevirtual 101, 34, 70, 2, 11) := by decide +kernel
theorem q107_34 : am_look 107 34 = some (.ireturn, 35, 0, 0, 0) := by decide +kernel
theorem q107_35 : am_look 107 35 = some (.iload_n 2, 36, 2, 0, 0) := by decide +kernel
theorem q107_36 : am_look 107 36 = some (.ifCond .ge 14, 39, 50, 0, 0) := by decide +kernel
theorem q107_39 : am_look 107 39 = some (.aload_n 0, 40, 0, 0, 0) := by decide +kernel
theorem q107_40 : am_look 107 40 = some (.getfield 26, 43, 706, 2, 0) := by decide +kernel
theorem q107_43 : am_look 107 43 = some (.iload_n 1, 44, 1, 0, 0) := by decide +kernel
theorem q107_44 : am_look 107 44 = some (.invokevirtual 179, 47, 25, 2, 4) := by decide +kernel
theorem q107_47 : am_look 107 47 = some (.goto 12, 50, 59, 0, 0) := by decide +kernel
theorem q107_50 : am_look 107 50 = some (.aload_n 0, 51, 0, 0, 0) := by decide +kernel
theorem q107_51 : am_look 107 51 = some (.getfield 26, 54, 706, 2, 0) := by decide +kernel
theorem q107_54 : am_look 107 54 = some (.iload_n 1, 55, 1, 0, 0) := by decide +kernel
theorem q107_55 : am_look 107 55 = some (.iload_n 2, 56, 2, 0, 0) := by decide +kernel
theorem q107_56 : am_look 107 56 = some (.invokevirtual 181, 59, 26, 3, 4) := by decide +kernel
theorem q107_59 : am_look 107 59 = some (.ireturn, 60, 0, 0, 0) := by decide +kernel
theorem zb107 : am_zb 107 = false := by decide +kernel
theorem ml107 : am_ml 107 = 3 := by decide +kernel
theorem np107 : am_np 107 + (if am_sc 107 then 0 else 1) = 3 := by decide +kernel
theorem st107 {d : Nat} {h h1 : am_H} {r : Option am_V} (p0 : Nat) (a1 : Int) (a2 : Int) (H : am_x (am_cd d) 107 (fun r2 h2 => r2 = r ∧ h2 = h1) 0 0 [some (.inr (.inr p0)), some (.inl a1), some (.inl a2)] [] h) : am_cd (d + 1) 107 [.inr (.inr p0), .inl a1, .inl a2] h r h1 := by
  refine ⟨⟨by rw [ml107]; simp [am_en], by rw [np107]; rfl⟩, ?_⟩
  rw [ml107]; exact H
theorem q108_0 : am_look 108 0 = some (.aload_n 0, 1, 0, 0, 0) := by decide +kernel
theorem q108_1 : am_look 108 1 = some (.getfield 35, 4, 707, 3, 0) := by decide +kernel
theorem q108_4 : am_look 108 4 = some (.iload_n 1, 5, 1, 0, 0) := by decide +kernel
theorem q108_5 : am_look 108 5 = some (.invokevirtual 195, 8, 1, 2, 0) := by decide +kernel
theorem q108_8 : am_look 108 8 = some (.ifCond .eq 12, 11, 20, 0, 0) := by decide +kernel
theorem q108_11 : am_look 108 11 = some (.iload_n 2, 12, 2, 0, 0) := by decide +kernel
theorem q108_12 : am_look 108 12 = some (.ifCond .lt 8, 15, 20, 0, 0) := by decide +kernel
theorem q108_15 : am_look 108 15 = some (.iload_n 2, 16, 2, 0, 0) := by decide +kernel
theorem q108_16 : am_look 108 16 = some (.iconst 4, 17, 0, 0, 4) := by decide +kernel
theorem q108_17 : am_look 108 17 = some (.if_icmp .le 10, 20, 27, 0, 0) := by decide +kernel
theorem q108_20 : am_look 108 20 = some (.aload_n 0, 21, 0, 0, 0) := by decide +kernel
theorem q108_21 : am_look 108 21 = some (.ldc 100, 23, 0, 0, (-100001)) := by decide +kernel
theorem q108_23 : am_look 108 23 = some (.invokevirtual 101, 26, 70, 2, 11) := by decide +kernel
theorem q108_26 : am_look 108 26 = some (.ireturn, 27, 0, 0, 0) := by decide +kernel
theorem q108_27 : am_look 108 27 = some (.aload_n 0, 28, 0, 0, 0) := by decide +kernel
theorem q108_28 : am_look 108 28 = some (.getfield 35, 31, 707, 3, 0) := by decide +kernel
theorem q108_31 : am_look 108 31 = some (.iload_n 1, 32, 1, 0, 0) := by decide +kernel
theorem q108_32 : am_look 108 32 = some (.iload_n 2, 33, 2, 0, 0) := by decide +kernel
theorem q108_33 : am_look 108 33 = some (.invokevirtual 204, 36, 7, 3, 0) := by decide +kernel
theorem q108_36 : am_look 108 36 = some (.ireturn, 37, 0, 0, 0) := by decide +kernel
theorem zb108 : am_zb 108 = false := by decide +kernel
theorem ml108 : am_ml 108 = 3 := by decide +kernel
theorem np108 : am_np 108 + (if am_sc 108 then 0 else 1) = 3 := by decide +kernel
theorem st108 {d : Nat} {h h1 : am_H} {r : Option am_V} (p0 : Nat) (a1 : Int) (a2 : Int) (H : am_x (am_cd d) 108 (fun r2 h2 => r2 = r ∧ h2 = h1) 0 0 [some (.inr (.inr p0)), some (.inl a1), some (.inl a2)] [] h) : am_cd (d + 1) 108 [.inr (.inr p0), .inl a1, .inl a2] h r h1 := by
  refine ⟨⟨by rw [ml108]; simp [am_en], by rw [np108]; rfl⟩, ?_⟩
  rw [ml108]; exact H
theorem q109_0 : am_look 109 0 = some (.iload_n 1, 1, 1, 0, 0) := by decide +kernel
theorem q109_1 : am_look 109 1 = some (.iconst 1, 2, 0, 0, 1) := by decide +kernel
theorem q109_2 : am_look 109 2 = some (.if_icmp .lt 9, 5, 11, 0, 0) := by decide +kernel
theorem q109_5 : am_look 109 5 = some (.iload_n 1, 6, 1, 0, 0) := by decide +kernel
theorem q109_6 : am_look 109 6 = some (.bipush 8, 8, 0, 0, 8) := by decide +kernel
theorem q109_8 : am_look 109 8 = some (.if_icmp .le 10, 11, 18, 0, 0) := by decide +kernel
theorem q109_11 : am_look 109 11 = some (.aload_n 0, 12, 0, 0, 0) := by decide +kernel
theorem q109_12 : am_look 109 12 = some (.ldc 100, 14, 0, 0, (-100001)) := by decide +kernel
theorem q109_14 : am_look 109 14 = some (.invokevirtual 101, 17, 70, 2, 11) := by decide +kernel
theorem q109_17 : am_look 109 17 = some (.ireturn, 18, 0, 0, 0) := by decide +kernel
theorem q109_18 : am_look 109 18 = some (.aload_n 0, 19, 0, 0, 0) := by decide +kernel
theorem q109_19 : am_look 109 19 = some (.getfield 44, 22, 708, 4, 0) := by decide +kernel
theorem q109_22 : am_look 109 22 = some (.iload_n 1, 23, 1, 0, 0) := by decide +kernel
theorem q109_23 : am_look 109 23 = some (.invokevirtual 214, 26, 61, 2, 9) := by decide +kernel
theorem q109_26 : am_look 109 26 = some (.ifCond .ne 10, 29, 36, 0, 0) := by decide +kernel
theorem q109_29 : am_look 109 29 = some (.aload_n 0, 30, 0, 0, 0) := by decide +kernel
theorem q109_30 : am_look 109 30 = some (.ldc 109, 32, 0, 0, (-100005)) := by decide +kernel
theorem q109_32 : am_look 109 32 = some (.invokevirtual 101, 35, 70, 2, 11) := by decide +kernel
theorem q109_35 : am_look 109 35 = some (.ireturn, 36, 0, 0, 0) := by decide +kernel
theorem q109_36 : am_look 109 36 = some (.aload_n 0, 37, 0, 0, 0) := by decide +kernel
theorem q109_37 : am_look 109 37 = some (.getfield 44, 40, 708, 4, 0) := by decide +kernel
theorem q109_40 : am_look 109 40 = some (.iload_n 1, 41, 1, 0, 0) := by decide +kernel
theorem q109_41 : am_look 109 41 = some (.lload_n 2, 42, 2, 0, 0) := by decide +kernel
theorem q109_42 : am_look 109 42 = some (.invokevirtual 217, 45, 62, 3, 9) := by decide +kernel
theorem q109_45 : am_look 109 45 = some (.ireturn, 46, 0, 0, 0) := by decide +kernel
theorem zb109 : am_zb 109 = false := by decide +kernel
theorem ml109 : am_ml 109 = 4 := by decide +kernel
theorem np109 : am_np 109 + (if am_sc 109 then 0 else 1) = 3 := by decide +kernel
theorem st109 {d : Nat} {h h1 : am_H} {r : Option am_V} (p0 : Nat) (a1 : Int) (a2 : Int64) (H : am_x (am_cd d) 109 (fun r2 h2 => r2 = r ∧ h2 = h1) 0 0 [some (.inr (.inr p0)), some (.inl a1), some (.inr (.inl a2)), none] [] h) : am_cd (d + 1) 109 [.inr (.inr p0), .inl a1, .inr (.inl a2)] h r h1 := by
  refine ⟨⟨by rw [ml109]; simp [am_en], by rw [np109]; rfl⟩, ?_⟩
  rw [ml109]; exact H
theorem q110_0 : am_look 110 0 = some (.iload_n 1, 1, 1, 0, 0) := by decide +kernel
theorem q110_1 : am_look 110 1 = some (.invokestatic 221, 4, 60, 1, 99) := by decide +kernel
theorem q110_4 : am_look 110 4 = some (.ifCond .ne 10, 7, 14, 0, 0) := by decide +kernel
theorem q110_7 : am_look 110 7 = some (.aload_n 0, 8, 0, 0, 0) := by decide +kernel
theorem q110_8 : am_look 110 8 = some (.ldc 100, 10, 0, 0, (-100001)) := by decide +kernel
theorem q110_10 : am_look 110 10 = some (.invokevirtual 101, 13, 70, 2, 11) := by decide +kernel
theorem q110_13 : am_look 110 13 = some (.ireturn, 14, 0, 0, 0) := by decide +kernel
theorem q110_14 : am_look 110 14 = some (.aload_n 0, 15, 0, 0, 0) := by decide +kernel
theorem q110_15 : am_look 110 15 = some (.getfield 44, 18, 708, 4, 0) := by decide +kernel
theorem q110_18 : am_look 110 18 = some (.iload_n 1, 19, 1, 0, 0) := by decide +kernel
theorem q110_19 : am_look 110 19 = some (.invokevirtual 227, 22, 64, 2, 9) := by decide +kernel
theorem q110_22 : am_look 110 22 = some (.ireturn, 23, 0, 0, 0) := by decide +kernel
theorem zb110 : am_zb 110 = false := by decide +kernel
theorem ml110 : am_ml 110 = 2 := by decide +kernel
theorem np110 : am_np 110 + (if am_sc 110 then 0 else 1) = 2 := by decide +kernel
theorem st110 {d : Nat} {h h1 : am_H} {r : Option am_V} (p0 : Nat) (a1 : Int) (H : am_x (am_cd d) 110 (fun r2 h2 => r2 = r ∧ h2 = h1) 0 0 [some (.inr (.inr p0)), some (.inl a1)] [] h) : am_cd (d + 1) 110 [.inr (.inr p0), .inl a1] h r h1 := by
  refine ⟨⟨by rw [ml110]; simp [am_en], by rw [np110]; rfl⟩, ?_⟩
  rw [ml110]; exact H
theorem q111_0 : am_look 111 0 = some (.iload_n 1, 1, 1, 0, 0) := by decide +kernel
theorem q111_1 : am_look 111 1 = some (.invokestatic 258, 4, 51, 1, 99) := by decide +kernel
theorem q111_4 : am_look 111 4 = some (.ifCond .ne 10, 7, 14, 0, 0) := by decide +kernel
theorem q111_7 : am_look 111 7 = some (.aload_n 0, 8, 0, 0, 0) := by decide +kernel
theorem q111_8 : am_look 111 8 = some (.ldc 100, 10, 0, 0, (-100001)) := by decide +kernel
theorem q111_10 : am_look 111 10 = some (.invokevirtual 101, 13, 70, 2, 11) := by decide +kernel
theorem q111_13 : am_look 111 13 = some (.ireturn, 14, 0, 0, 0) := by decide +kernel
theorem q111_14 : am_look 111 14 = some (.aload_n 0, 15, 0, 0, 0) := by decide +kernel
theorem q111_15 : am_look 111 15 = some (.getfield 85, 18, 713, 9, 0) := by decide +kernel
theorem q111_18 : am_look 111 18 = some (.iload_n 1, 19, 1, 0, 0) := by decide +kernel
theorem q111_19 : am_look 111 19 = some (.invokevirtual 261, 22, 53, 2, 7) := by decide +kernel
theorem q111_22 : am_look 111 22 = some (.ifCond .eq 10, 25, 32, 0, 0) := by decide +kernel
theorem q111_25 : am_look 111 25 = some (.aload_n 0, 26, 0, 0, 0) := by decide +kernel
theorem q111_26 : am_look 111 26 = some (.ldc 236, 28, 0, 0, (-100002)) := by decide +kernel
theorem q111_28 : am_look 111 28 = some (.invokevirtual 101, 31, 70, 2, 11) := by decide +kernel
theorem q111_31 : am_look 111 31 = some (.ireturn, 32, 0, 0, 0) := by decide +kernel
theorem q111_32 : am_look 111 32 = some (.iload_n 2, 33, 2, 0, 0) := by decide +kernel
theorem q111_33 : am_look 111 33 = some (.ifCond .lt 15, 36, 48, 0, 0) := by decide +kernel
theorem q111_36 : am_look 111 36 = some (.iload_n 2, 37, 2, 0, 0) := by decide +kernel
theorem q111_37 : am_look 111 37 = some (.aload_n 0, 38, 0, 0, 0) := by decide +kernel
theorem q111_38 : am_look 111 38 = some (.getfield 85, 41, 713, 9, 0) := by decide +kernel
theorem q111_41 : am_look 111 41 = some (.iload_n 1, 42, 1, 0, 0) := by decide +kernel
theorem q111_42 : am_look 111 42 = some (.invokevirtual 314, 45, 55, 2, 7) := by decide +kernel
theorem q111_45 : am_look 111 45 = some (.if_icmp .lt 10, 48, 55, 0, 0) := by decide +kernel
theorem q111_48 : am_look 111 48 = some (.aload_n 0, 49, 0, 0, 0) := by decide +kernel
theorem q111_49 : am_look 111 49 = some (.ldc 100, 51, 0, 0, (-100001)) := by decide +kernel
theorem q111_51 : am_look 111 51 = some (.invokevirtual 101, 54, 70, 2, 11) := by decide +kernel
theorem q111_54 : am_look 111 54 = some (.ireturn, 55, 0, 0, 0) := by decide +kernel
theorem q111_55 : am_look 111 55 = some (.aload_n 0, 56, 0, 0, 0) := by decide +kernel
theorem q111_56 : am_look 111 56 = some (.getfield 85, 59, 713, 9, 0) := by decide +kernel
theorem q111_59 : am_look 111 59 = some (.iload_n 1, 60, 1, 0, 0) := by decide +kernel
theorem q111_60 : am_look 111 60 = some (.iload_n 2, 61, 2, 0, 0) := by decide +kernel
theorem q111_61 : am_look 111 61 = some (.iload_n 3, 62, 3, 0, 0) := by decide +kernel
theorem q111_62 : am_look 111 62 = some (.invokevirtual 315, 65, 56, 4, 7) := by decide +kernel
theorem q111_65 : am_look 111 65 = some (.iconst 0, 66, 0, 0, 0) := by decide +kernel
theorem q111_66 : am_look 111 66 = some (.ireturn, 67, 0, 0, 0) := by decide +kernel
theorem zb111 : am_zb 111 = false := by decide +kernel
theorem ml111 : am_ml 111 = 4 := by decide +kernel
theorem np111 : am_np 111 + (if am_sc 111 then 0 else 1) = 4 := by decide +kernel
theorem st111 {d : Nat} {h h1 : am_H} {r : Option am_V} (p0 : Nat) (a1 : Int) (a2 : Int) (a3 : Int) (H : am_x (am_cd d) 111 (fun r2 h2 => r2 = r ∧ h2 = h1) 0 0 [some (.inr (.inr p0)), some (.inl a1), some (.inl a2), some (.inl a3)] [] h) : am_cd (d + 1) 111 [.inr (.inr p0), .inl a1, .inl a2, .inl a3] h r h1 := by
  refine ⟨⟨by rw [ml111]; simp [am_en], by rw [np111]; rfl⟩, ?_⟩
  rw [ml111]; exact H
theorem q112_0 : am_look 112 0 = some (.iload_n 1, 1, 1, 0, 0) := by decide +kernel
theorem q112_1 : am_look 112 1 = some (.invokestatic 258, 4, 51, 1, 99) := by decide +kernel
theorem q112_4 : am_look 112 4 = some (.ifCond .eq 10, 7, 14, 0, 0) := by decide +kernel
theorem q112_7 : am_look 112 7 = some (.iload_n 3, 8, 3, 0, 0) := by decide +kernel
theorem q112_8 : am_look 112 8 = some (.invokestatic 258, 11, 51, 1, 99) := by decide +kernel
theorem q112_11 : am_look 112 11 = some (.ifCond .ne 10, 14, 21, 0, 0) := by decide +kernel
theorem q112_14 : am_look 112 14 = some (.aload_n 0, 15, 0, 0, 0) := by decide +kernel
theorem q112_15 : am_look 112 15 = some (.ldc 100, 17, 0, 0, (-100001)) := by decide +kernel
theorem q112_17 : am_look 112 17 = some (.invokevirtual 101, 20, 70, 2, 11) := by decide +kernel
theorem q112_20 : am_look 112 20 = some (.ireturn, 21, 0, 0, 0) := by decide +kernel
theorem q112_21 : am_look 112 21 = some (.aload_n 0, 22, 0, 0, 0) := by decide +kernel
theorem q112_22 : am_look 112 22 = some (.getfield 85, 25, 713, 9, 0) := by decide +kernel
theorem q112_25 : am_look 112 25 = some (.iload_n 1, 26, 1, 0, 0) := by decide +kernel
theorem q112_26 : am_look 112 26 = some (.invokevirtual 261, 29, 53, 2, 7) := by decide +kernel
theorem q112_29 : am_look 112 29 = some (.ifCond .ne 14, 32, 43, 0, 0) := by decide +kernel
theorem q112_32 : am_look 112 32 = some (.aload_n 0, 33, 0, 0, 0) := by decide +kernel
theorem q112_33 : am_look 112 33 = some (.getfield 85, 36, 713, 9, 0) := by decide +kernel
theorem q112_36 : am_look 112 36 = some (.iload_n 3, 37, 3, 0, 0) := by decide +kernel
theorem q112_37 : am_look 112 37 = some (.invokevirtual 261, 40, 53, 2, 7) := by decide +kernel
theorem q112_40 : am_look 112 40 = some (.ifCond .eq 10, 43, 50, 0, 0) := by decide +kernel
theorem q112_43 : am_look 112 43 = some (.aload_n 0, 44, 0, 0, 0) := by decide +kernel
theorem q112_44 : am_look 112 44 = some (.ldc 236, 46, 0, 0, (-100002)) := by decide +kernel
theorem q112_46 : am_look 112 46 = some (.invokevirtual 101, 49, 70, 2, 11) := by decide +kernel
theorem q112_49 : am_look 112 49 = some (.ireturn, 50, 0, 0, 0) := by decide +kernel
theorem q112_50 : am_look 112 50 = some (.aload_n 0, 51, 0, 0, 0) := by decide +kernel
theorem q112_51 : am_look 112 51 = some (.getfield 85, 54, 713, 9, 0) := by decide +kernel
theorem q112_54 : am_look 112 54 = some (.iload_n 1, 55, 1, 0, 0) := by decide +kernel
theorem q112_55 : am_look 112 55 = some (.invokevirtual 317, 58, 54, 2, 7) := by decide +kernel
theorem q112_58 : am_look 112 58 = some (.aload_n 0, 59, 0, 0, 0) := by decide +kernel
theorem q112_59 : am_look 112 59 = some (.getfield 85, 62, 713, 9, 0) := by decide +kernel
theorem q112_62 : am_look 112 62 = some (.iload_n 3, 63, 3, 0, 0) := by decide +kernel
theorem q112_63 : am_look 112 63 = some (.invokevirtual 317, 66, 54, 2, 7) := by decide +kernel
theorem q112_66 : am_look 112 66 = some (.if_icmp .eq 10, 69, 76, 0, 0) := by decide +kernel
theorem q112_69 : am_look 112 69 = some (.aload_n 0, 70, 0, 0, 0) := by decide +kernel
theorem q112_70 : am_look 112 70 = some (.ldc 166, 72, 0, 0, (-100004)) := by decide +kernel
theorem q112_72 : am_look 112 72 = some (.invokevirtual 101, 75, 70, 2, 11) := by decide +kernel
theorem q112_75 : am_look 112 75 = some (.ireturn, 76, 0, 0, 0) := by decide +kernel
theorem q112_76 : am_look 112 76 = some (.aload_n 0, 77, 0, 0, 0) := by decide +kernel
theorem q112_77 : am_look 112 77 = some (.getfield 85, 80, 713, 9, 0) := by decide +kernel
theorem q112_80 : am_look 112 80 = some (.iload_n 1, 81, 1, 0, 0) := by decide +kernel
theorem q112_81 : am_look 112 81 = some (.iload_n 2, 82, 2, 0, 0) := by decide +kernel
theorem q112_82 : am_look 112 82 = some (.iload 5, 84, 5, 0, 0) := by decide +kernel
theorem q112_84 : am_look 112 84 = some (.invokevirtual 320, 87, 58, 4, 7) := by decide +kernel
theorem q112_87 : am_look 112 87 = some (.ifCond .eq 18, 90, 105, 0, 0) := by decide +kernel
theorem q112_90 : am_look 112 90 = some (.aload_n 0, 91, 0, 0, 0) := by decide +kernel
theorem q112_91 : am_look 112 91 = some (.getfield 85, 94, 713, 9, 0) := by decide +kernel
theorem q112_94 : am_look 112 94 = some (.iload_n 3, 95, 3, 0, 0) := by decide +kernel
theorem q112_95 : am_look 112 95 = some (.iload 4, 97, 4, 0, 0) := by decide +kernel
theorem q112_97 : am_look 112 97 = some (.iload 5, 99, 5, 0, 0) := by decide +kernel
theorem q112_99 : am_look 112 99 = some (.invokevirtual 320, 102, 58, 4, 7) := by decide +kernel
theorem q112_102 : am_look 112 102 = some (.ifCond .ne 10, 105, 112, 0, 0) := by decide +kernel
theorem q112_105 : am_look 112 105 = some (.aload_n 0, 106, 0, 0, 0) := by decide +kernel
theorem q112_106 : am_look 112 106 = some (.ldc 100, 108, 0, 0, (-100001)) := by decide +kernel
theorem q112_108 : am_look 112 108 = some (.invokevirtual 101, 111, 70, 2, 11) := by decide +kernel
theorem q112_111 : am_look 112 111 = some (.ireturn, 112, 0, 0, 0) := by decide +kernel
theorem q112_112 : am_look 112 112 = some (.aload_n 0, 113, 0, 0, 0) := by decide +kernel
theorem q112_113 : am_look 112 113 = some (.getfield 85, 116, 713, 9, 0) := by decide +kernel
theorem q112_116 : am_look 112 116 = some (.iload_n 1, 117, 1, 0, 0) := by decide +kernel
theorem q112_117 : am_look 112 117 = some (.iload_n 2, 118, 2, 0, 0) := by decide +kernel
theorem q112_118 : am_look 112 118 = some (.iload_n 3, 119, 3, 0, 0) := by decide +kernel
theorem q112_119 : am_look 112 119 = some (.iload 4, 121, 4, 0, 0) := by decide +kernel
theorem q112_121 : am_look 112 121 = some (.iload 5, 123, 5, 0, 0) := by decide +kernel
theorem q112_123 : am_look 112 123 = some (.invokevirtual 324, 126, 59, 6, 7) := by decide +kernel
theorem q112_126 : am_look 112 126 = some (.iload 5, 128, 5, 0, 0) := by decide +kernel
theorem q112_128 : am_look 112 128 = some (.ireturn, 129, 0, 0, 0) := by decide +kernel
theorem zb112 : am_zb 112 = false := by decide +kernel
theorem ml112 : am_ml 112 = 6 := by decide +kernel
theorem np112 : am_np 112 + (if am_sc 112 then 0 else 1) = 6 := by decide +kernel
theorem st112 {d : Nat} {h h1 : am_H} {r : Option am_V} (p0 : Nat) (a1 : Int) (a2 : Int) (a3 : Int) (a4 : Int) (a5 : Int) (H : am_x (am_cd d) 112 (fun r2 h2 => r2 = r ∧ h2 = h1) 0 0 [some (.inr (.inr p0)), some (.inl a1), some (.inl a2), some (.inl a3), some (.inl a4), some (.inl a5)] [] h) : am_cd (d + 1) 112 [.inr (.inr p0), .inl a1, .inl a2, .inl a3, .inl a4, .inl a5] h r h1 := by
  refine ⟨⟨by rw [ml112]; simp [am_en], by rw [np112]; rfl⟩, ?_⟩
  rw [ml112]; exact H
theorem q113_0 : am_look 113 0 = some (.aload_n 0, 1, 0, 0, 0) := by decide +kernel
theorem q113_1 : am_look 113 1 = some (.getfield 10, 4, 704, 0, 0) := by decide +kernel
theorem q113_4 : am_look 113 4 = some (.iload_n 1, 5, 1, 0, 0) := by decide +kernel
theorem q113_5 : am_look 113 5 = some (.invokevirtual 139, 8, 49, 2, 6) := by decide +kernel
theorem q113_8 : am_look 113 8 = some (.aload_n 0, 9, 0, 0, 0) := by decide +kernel
theorem q113_9 : am_look 113 9 = some (.getfield 10, 12, 704, 0, 0) := by decide +kernel
theorem q113_12 : am_look 113 12 = some (.iload_n 2, 13, 2, 0, 0) := by decide +kernel
theorem q113_13 : am_look 113 13 = some (.invokevirtual 139, 16, 49, 2, 6) := by decide +kernel
theorem q113_16 : am_look 113 16 = some (.if_icmp .eq 28, 19, 44, 0, 0) := by decide +kernel
theorem q113_19 : am_look 113 19 = some (.aload_n 0, 20, 0, 0, 0) := by decide +kernel
theorem q113_20 : am_look 113 20 = some (.getfield 10, 23, 704, 0, 0) := by decide +kernel
theorem q113_23 : am_look 113 23 = some (.iload_n 1, 24, 1, 0, 0) := by decide +kernel
theorem q113_24 : am_look 113 24 = some (.invokevirtual 139, 27, 49, 2, 6) := by decide +kernel
theorem q113_27 : am_look 113 27 = some (.aload_n 0, 28, 0, 0, 0) := by decide +kernel
theorem q113_28 : am_look 113 28 = some (.getfield 10, 31, 704, 0, 0) := by decide +kernel
theorem q113_31 : am_look 113 31 = some (.iload_n 2, 32, 2, 0, 0) := by decide +kernel
theorem q113_32 : am_look 113 32 = some (.invokevirtual 139, 35, 49, 2, 6) := by decide +kernel
theorem q113_35 : am_look 113 35 = some (.if_icmp .le 7, 38, 42, 0, 0) := by decide +kernel
theorem q113_38 : am_look 113 38 = some (.iconst 1, 39, 0, 0, 1) := by decide +kernel
theorem q113_39 : am_look 113 39 = some (.goto 4, 42, 43, 0, 0) := by decide +kernel
theorem q113_42 : am_look 113 42 = some (.iconst 0, 43, 0, 0, 0) := by decide +kernel
theorem q113_43 : am_look 113 43 = some (.ireturn, 44, 0, 0, 0) := by decide +kernel
theorem q113_44 : am_look 113 44 = some (.aload_n 0, 45, 0, 0, 0) := by decide +kernel
theorem q113_45 : am_look 113 45 = some (.getfield 10, 48, 704, 0, 0) := by decide +kernel
theorem q113_48 : am_look 113 48 = some (.iload_n 1, 49, 1, 0, 0) := by decide +kernel
theorem q113_49 : am_look 113 49 = some (.invokevirtual 377, 52, 43, 2, 6) := by decide +kernel
theorem q113_52 : am_look 113 52 = some (.aload_n 0, 53, 0, 0, 0) := by decide +kernel
theorem q113_53 : am_look 113 53 = some (.getfield 10, 56, 704, 0, 0) := by decide +kernel
theorem q113_56 : am_look 113 56 = some (.iload_n 2, 57, 2, 0, 0) := by decide +kernel
theorem q113_57 : am_look 113 57 = some (.invokevirtual 377, 60, 43, 2, 6) := by decide +kernel
theorem q113_60 : am_look 113 60 = some (.if_icmp .le 7, 63, 67, 0, 0) := by decide +kernel
theorem q113_63 : am_look 113 63 = some (.iconst 1, 64, 0, 0, 1) := by decide +kernel
theorem q113_64 : am_look 113 64 = some (.goto 4, 67, 68, 0, 0) := by decide +kernel
theorem q113_67 : am_look 113 67 = some (.iconst 0, 68, 0, 0, 0) := by decide +kernel
theorem q113_68 : am_look 113 68 = some (.ireturn, 69, 0, 0, 0) := by decide +kernel
theorem zb113 : am_zb 113 = true := by decide +kernel
theorem ml113 : am_ml 113 = 3 := by decide +kernel
theorem np113 : am_np 113 + (if am_sc 113 then 0 else 1) = 3 := by decide +kernel
theorem st113 {d : Nat} {h h1 : am_H} {r : Option am_V} (p0 : Nat) (a1 : Int) (a2 : Int) (H : am_x (am_cd d) 113 (fun r2 h2 => r2 = r ∧ h2 = h1) 0 0 [some (.inr (.inr p0)), some (.inl a1), some (.inl a2)] [] h) : am_cd (d + 1) 113 [.inr (.inr p0), .inl a1, .inl a2] h r h1 := by
  refine ⟨⟨by rw [ml113]; simp [am_en], by rw [np113]; rfl⟩, ?_⟩
  rw [ml113]; exact H
theorem q114_0 : am_look 114 0 = some (.iload_n 1, 1, 1, 0, 0) := by decide +kernel
theorem q114_1 : am_look 114 1 = some (.iconst 0, 2, 0, 0, 0) := by decide +kernel
theorem q114_2 : am_look 114 2 = some (.aload_n 0, 3, 0, 0, 0) := by decide +kernel
theorem q114_3 : am_look 114 3 = some (.getfield 7, 6, 768, 0, 0) := by decide +kernel
theorem q114_6 : am_look 114 6 = some (.iconst 0, 7, 0, 0, 0) := by decide +kernel
theorem q114_7 : am_look 114 7 = some (.iaload, 8, 0, 0, 0) := by decide +kernel
theorem q114_8 : am_look 114 8 = some (.iconst 1, 9, 0, 0, 1) := by decide +kernel
theorem q114_9 : am_look 114 9 = some (.isub, 10, 0, 0, 0) := by decide +kernel
theorem q114_10 : am_look 114 10 = some (.invokestatic 83, 13, 73, 3, 99) := by decide +kernel
theorem q114_13 : am_look 114 13 = some (.ireturn, 14, 0, 0, 0) := by decide +kernel
theorem zb114 : am_zb 114 = true := by decide +kernel
theorem ml114 : am_ml 114 = 2 := by decide +kernel
theorem np114 : am_np 114 + (if am_sc 114 then 0 else 1) = 2 := by decide +kernel
theorem st114 {d : Nat} {h h1 : am_H} {r : Option am_V} (p0 : Nat) (a1 : Int) (H : am_x (am_cd d) 114 (fun r2 h2 => r2 = r ∧ h2 = h1) 0 0 [some (.inr (.inr p0)), some (.inl a1)] [] h) : am_cd (d + 1) 114 [.inr (.inr p0), .inl a1] h r h1 := by
  refine ⟨⟨by rw [ml114]; simp [am_en], by rw [np114]; rfl⟩, ?_⟩
  rw [ml114]; exact H
theorem q115_0 : am_look 115 0 = some (.iload_n 1, 1, 1, 0, 0) := by decide +kernel
theorem q115_1 : am_look 115 1 = some (.iconst 0, 2, 0, 0, 0) := by decide +kernel
theorem q115_2 : am_look 115 2 = some (.aload_n 0, 3, 0, 0, 0) := by decide +kernel
theorem q115_3 : am_look 115 3 = some (.getfield 7, 6, 768, 0, 0) := by decide +kernel
theorem q115_6 : am_look 115 6 = some (.iconst 2, 7, 0, 0, 2) := by decide +kernel
theorem q115_7 : am_look 115 7 = some (.iaload, 8, 0, 0, 0) := by decide +kernel
theorem q115_8 : am_look 115 8 = some (.iconst 1, 9, 0, 0, 1) := by decide +kernel
theorem q115_9 : am_look 115 9 = some (.isub, 10, 0, 0, 0) := by decide +kernel
theorem q115_10 : am_look 115 10 = some (.invokestatic 83, 13, 73, 3, 99) := by decide +kernel
theorem q115_13 : am_look 115 13 = some (.ireturn, 14, 0, 0, 0) := by decide +kernel
theorem zb115 : am_zb 115 = true := by decide +kernel
theorem ml115 : am_ml 115 = 2 := by decide +kernel
theorem np115 : am_np 115 + (if am_sc 115 then 0 else 1) = 2 := by decide +kernel
theorem st115 {d : Nat} {h h1 : am_H} {r : Option am_V} (p0 : Nat) (a1 : Int) (H : am_x (am_cd d) 115 (fun r2 h2 => r2 = r ∧ h2 = h1) 0 0 [some (.inr (.inr p0)), some (.inl a1)] [] h) : am_cd (d + 1) 115 [.inr (.inr p0), .inl a1] h r h1 := by
  refine ⟨⟨by rw [ml115]; simp [am_en], by rw [np115]; rfl⟩, ?_⟩
  rw [ml115]; exact H
theorem q116_0 : am_look 116 0 = some (.iload_n 0, 1, 0, 0, 0) := by decide +kernel
theorem q116_1 : am_look 116 1 = some (.iconst 0, 2, 0, 0, 0) := by decide +kernel
theorem q116_2 : am_look 116 2 = some (.iconst 5, 3, 0, 0, 5) := by decide +kernel
theorem q116_3 : am_look 116 3 = some (.invokestatic 83, 6, 73, 3, 99) := by decide +kernel
theorem q116_6 : am_look 116 6 = some (.ireturn, 7, 0, 0, 0) := by decide +kernel
theorem zb116 : am_zb 116 = true := by decide +kernel
theorem ml116 : am_ml 116 = 1 := by decide +kernel
theorem np116 : am_np 116 + (if am_sc 116 then 0 else 1) = 1 := by decide +kernel
theorem st116 {d : Nat} {h h1 : am_H} {r : Option am_V} (a1 : Int) (H : am_x (am_cd d) 116 (fun r2 h2 => r2 = r ∧ h2 = h1) 0 0 [some (.inl a1)] [] h) : am_cd (d + 1) 116 [.inl a1] h r h1 := by
  refine ⟨⟨by rw [ml116]; simp [am_en], by rw [np116]; rfl⟩, ?_⟩
  rw [ml116]; exact H
theorem q117_0 : am_look 117 0 = some (.iload_n 0, 1, 0, 0, 0) := by decide +kernel
theorem q117_1 : am_look 117 1 = some (.iconst 0, 2, 0, 0, 0) := by decide +kernel
theorem q117_2 : am_look 117 2 = some (.sipush 999, 5, 0, 0, 999) := by decide +kernel
theorem q117_5 : am_look 117 5 = some (.invokestatic 83, 8, 73, 3, 99) := by decide +kernel
theorem q117_8 : am_look 117 8 = some (.ireturn, 9, 0, 0, 0) := by decide +kernel
theorem zb117 : am_zb 117 = true := by decide +kernel
theorem ml117 : am_ml 117 = 1 := by decide +kernel
theorem np117 : am_np 117 + (if am_sc 117 then 0 else 1) = 1 := by decide +kernel
theorem st117 {d : Nat} {h h1 : am_H} {r : Option am_V} (a1 : Int) (H : am_x (am_cd d) 117 (fun r2 h2 => r2 = r ∧ h2 = h1) 0 0 [some (.inl a1)] [] h) : am_cd (d + 1) 117 [.inl a1] h r h1 := by
  refine ⟨⟨by rw [ml117]; simp [am_en], by rw [np117]; rfl⟩, ?_⟩
  rw [ml117]; exact H
theorem q118_0 : am_look 118 0 = some (.aload_n 0, 1, 0, 0, 0) := by decide +kernel
theorem q118_1 : am_look 118 1 = some (.getfield 87, 4, 770, 2, 0) := by decide +kernel
theorem q118_4 : am_look 118 4 = some (.ifCond .ne 10, 7, 14, 0, 0) := by decide +kernel
theorem q118_7 : am_look 118 7 = some (.aload_n 0, 8, 0, 0, 0) := by decide +kernel
theorem q118_8 : am_look 118 8 = some (.ldc 90, 10, 0, 0, (-100006)) := by decide +kernel
theorem q118_10 : am_look 118 10 = some (.invokevirtual 91, 13, 74, 2, 12) := by decide +kernel
theorem q118_13 : am_look 118 13 = some (.ireturn, 14, 0, 0, 0) := by decide +kernel
theorem q118_14 : am_look 118 14 = some (.aload_n 0, 15, 0, 0, 0) := by decide +kernel
theorem q118_15 : am_look 118 15 = some (.dup, 16, 0, 0, 0) := by decide +kernel
theorem q118_16 : am_look 118 16 = some (.getfield 87, 19, 770, 2, 0) := by decide +kernel
theorem q118_19 : am_look 118 19 = some (.iconst 1, 20, 0, 0, 1) := by decide +kernel
theorem q118_20 : am_look 118 20 = some (.isub, 21, 0, 0, 0) := by decide +kernel
theorem q118_21 : am_look 118 21 = some (.putfield 87, 24, 770, 2, 0) := by decide +kernel
theorem q118_24 : am_look 118 24 = some (.iconst 0, 25, 0, 0, 0) := by decide +kernel
theorem q118_25 : am_look 118 25 = some (.istore_n 1, 26, 1, 0, 0) := by decide +kernel
theorem q118_26 : am_look 118 26 = some (.iload_n 1, 27, 1, 0, 0) := by decide +kernel
theorem q118_27 : am_look 118 27 = some (.sipush 820, 30, 0, 0, 820) := by decide +kernel
theorem q118_30 : am_look 118 30 = some (.if_icmp .ge 30, 33, 60, 0, 0) := by decide +kernel
theorem q118_33 : am_look 118 33 = some (.aload_n 0, 34, 0, 0, 0) := by decide +kernel
theorem q118_34 : am_look 118 34 = some (.getfield 7, 37, 768, 0, 0) := by decide +kernel
theorem q118_37 : am_look 118 37 = some (.iload_n 1, 38, 1, 0, 0) := by decide +kernel
theorem q118_38 : am_look 118 38 = some (.aload_n 0, 39, 0, 0, 0) := by decide +kernel
theorem q118_39 : am_look 118 39 = some (.getfield 13, 42, 769, 1, 0) := by decide +kernel
theorem q118_42 : am_look 118 42 = some (.sipush 820, 45, 0, 0, 820) := by decide +kernel
theorem q118_45 : am_look 118 45 = some (.aload_n 0, 46, 0, 0, 0) := by decide +kernel
theorem q118_46 : am_look 118 46 = some (.getfield 87, 49, 770, 2, 0) := by decide +kernel
theorem q118_49 : am_look 118 49 = some (.imul, 50, 0, 0, 0) := by decide +kernel
theorem q118_50 : am_look 118 50 = some (.iload_n 1, 51, 1, 0, 0) := by decide +kernel
theorem q118_51 : am_look 118 51 = some (.iadd, 52, 0, 0, 0) := by decide +kernel
theorem q118_52 : am_look 118 52 = some (.iaload, 53, 0, 0, 0) := by decide +kernel
theorem q118_53 : am_look 118 53 = some (.iastore, 54, 0, 0, 0) := by decide +kernel
theorem q118_54 : am_look 118 54 = some (.iinc 1 1, 57, 1, 0, 1) := by decide +kernel
theorem q118_57 : am_look 118 57 = some (.goto (-31), 60, 26, 0, 0) := by decide +kernel
theorem q118_60 : am_look 118 60 = some (.aload_n 0, 61, 0, 0, 0) := by decide +kernel
theorem q118_61 : am_look 118 61 = some (.getfield 87, 64, 770, 2, 0) := by decide +kernel
theorem q118_64 : am_look 118 64 = some (.ireturn, 65, 0, 0, 0) := by decide +kernel
theorem zb118 : am_zb 118 = false := by decide +kernel
theorem ml118 : am_ml 118 = 2 := by decide +kernel
theorem np118 : am_np 118 + (if am_sc 118 then 0 else 1) = 1 := by decide +kernel
theorem st118 {d : Nat} {h h1 : am_H} {r : Option am_V} (p0 : Nat) (H : am_x (am_cd d) 118 (fun r2 h2 => r2 = r ∧ h2 = h1) 0 0 [some (.inr (.inr p0)), none] [] h) : am_cd (d + 1) 118 [.inr (.inr p0)] h r h1 := by
  refine ⟨⟨by rw [ml118]; simp [am_en], by rw [np118]; rfl⟩, ?_⟩
  rw [ml118]; exact H
theorem q119_0 : am_look 119 0 = some (.iload_n 1, 1, 1, 0, 0) := by decide +kernel
theorem q119_1 : am_look 119 1 = some (.iconst 0, 2, 0, 0, 0) := by decide +kernel
theorem q119_2 : am_look 119 2 = some (.sipush 9999, 5, 0, 0, 9999) := by decide +kernel
theorem q119_5 : am_look 119 5 = some (.invokestatic 83, 8, 73, 3, 99) := by decide +kernel
theorem q119_8 : am_look 119 8 = some (.ifCond .eq 14, 11, 22, 0, 0) := by decide +kernel
theorem q119_11 : am_look 119 11 = some (.iload_n 2, 12, 2, 0, 0) := by decide +kernel
theorem q119_12 : am_look 119 12 = some (.iconst 1, 13, 0, 0, 1) := by decide +kernel
theorem q119_13 : am_look 119 13 = some (.sipush 999, 16, 0, 0, 999) := by decide +kernel
theorem q119_16 : am_look 119 16 = some (.invokestatic 83, 19, 73, 3, 99) := by decide +kernel
theorem q119_19 : am_look 119 19 = some (.ifCond .ne 10, 22, 29, 0, 0) := by decide +kernel
theorem q119_22 : am_look 119 22 = some (.aload_n 0, 23, 0, 0, 0) := by decide +kernel
theorem q119_23 : am_look 119 23 = some (.ldc 95, 25, 0, 0, (-100001)) := by decide +kernel
theorem q119_25 : am_look 119 25 = some (.invokevirtual 91, 28, 74, 2, 12) := by decide +kernel
theorem q119_28 : am_look 119 28 = some (.ireturn, 29, 0, 0, 0) := by decide +kernel
theorem q119_29 : am_look 119 29 = some (.aload_n 0, 30, 0, 0, 0) := by decide +kernel
theorem q119_30 : am_look 119 30 = some (.getfield 7, 33, 768, 0, 0) := by decide +kernel
theorem q119_33 : am_look 119 33 = some (.iconst 0, 34, 0, 0, 0) := by decide +kernel
theorem q119_34 : am_look 119 34 = some (.iaload, 35, 0, 0, 0) := by decide +kernel
theorem q119_35 : am_look 119 35 = some (.bipush 12, 37, 0, 0, 12) := by decide +kernel
theorem q119_37 : am_look 119 37 = some (.if_icmp .ne 10, 40, 47, 0, 0) := by decide +kernel
theorem q119_40 : am_look 119 40 = some (.aload_n 0, 41, 0, 0, 0) := by decide +kernel
theorem q119_41 : am_look 119 41 = some (.ldc 96, 43, 0, 0, (-100005)) := by decide +kernel
theorem q119_43 : am_look 119 43 = some (.invokevirtual 91, 46, 74, 2, 12) := by decide +kernel
theorem q119_46 : am_look 119 46 = some (.ireturn, 47, 0, 0, 0) := by decide +kernel
theorem q119_47 : am_look 119 47 = some (.aload_n 0, 48, 0, 0, 0) := by decide +kernel
theorem q119_48 : am_look 119 48 = some (.invokevirtual 97, 51, 77, 1, 12) := by decide +kernel
theorem q119_51 : am_look 119 51 = some (.aload_n 0, 52, 0, 0, 0) := by decide +kernel
theorem q119_52 : am_look 119 52 = some (.getfield 7, 55, 768, 0, 0) := by decide +kernel
theorem q119_55 : am_look 119 55 = some (.iconst 0, 56, 0, 0, 0) := by decide +kernel
theorem q119_56 : am_look 119 56 = some (.iaload, 57, 0, 0, 0) := by decide +kernel
theorem q119_57 : am_look 119 57 = some (.istore_n 3, 58, 3, 0, 0) := by decide +kernel
theorem q119_58 : am_look 119 58 = some (.aload_n 0, 59, 0, 0, 0) := by decide +kernel
theorem q119_59 : am_look 119 59 = some (.getfield 7, 62, 768, 0, 0) := by decide +kernel
theorem q119_62 : am_look 119 62 = some (.iconst 0, 63, 0, 0, 0) := by decide +kernel
theorem q119_63 : am_look 119 63 = some (.dup2, 64, 0, 0, 0) := by decide +kernel
theorem q119_64 : am_look 119 64 = some (.iaload, 65, 0, 0, 0) := by decide +kernel
theorem q119_65 : am_look 119 65 = some (.iconst 1, 66, 0, 0, 1) := by decide +kernel
theorem q119_66 : am_look 119 66 = some (.iadd, 67, 0, 0, 0) := by decide +kernel
theorem q119_67 : am_look 119 67 = some (.iastore, 68, 0, 0, 0) := by decide +kernel
theorem q119_68 : am_look 119 68 = some (.aload_n 0, 69, 0, 0, 0) := by decide +kernel
theorem q119_69 : am_look 119 69 = some (.getfield 7, 72, 768, 0, 0) := by decide +kernel
theorem q119_72 : am_look 119 72 = some (.bipush 10, 74, 0, 0, 10) := by decide +kernel
theorem q119_74 : am_look 119 74 = some (.iconst 3, 75, 0, 0, 3) := by decide +kernel
theorem q119_75 : am_look 119 75 = some (.iload_n 3, 76, 3, 0, 0) := by decide +kernel
theorem q119_76 : am_look 119 76 = some (.imul, 77, 0, 0, 0) := by decide +kernel
theorem q119_77 : am_look 119 77 = some (.iadd, 78, 0, 0, 0) := by decide +kernel
theorem q119_78 : am_look 119 78 = some (.iload_n 1, 79, 1, 0, 0) := by decide +kernel
theorem q119_79 : am_look 119 79 = some (.bipush 100, 81, 0, 0, 100) := by decide +kernel
theorem q119_81 : am_look 119 81 = some (.idiv, 82, 0, 0, 0) := by decide +kernel
theorem q119_82 : am_look 119 82 = some (.iastore, 83, 0, 0, 0) := by decide +kernel
theorem q119_83 : am_look 119 83 = some (.aload_n 0, 84, 0, 0, 0) := by decide +kernel
theorem q119_84 : am_look 119 84 = some (.getfield 7, 87, 768, 0, 0) := by decide +kernel
theorem q119_87 : am_look 119 87 = some (.bipush 10, 89, 0, 0, 10) := by decide +kernel
theorem q119_89 : am_look 119 89 = some (.iconst 3, 90, 0, 0, 3) := by decide +kernel
theorem q119_90 : am_look 119 90 = some (.iload_n 3, 91, 3, 0, 0) := by decide +kernel
theorem q119_91 : am_look 119 91 = some (.imul, 92, 0, 0, 0) := by decide +kernel
theorem q119_92 : am_look 119 92 = some (.iadd, 93, 0, 0, 0) := by decide +kernel
theorem q119_93 : am_look 119 93 = some (.iconst 1, 94, 0, 0, 1) := by decide +kernel
theorem q119_94 : am_look 119 94 = some (.iadd, 95, 0, 0, 0) := by decide +kernel
theorem q119_95 : am_look 119 95 = some (.iload_n 1, 96, 1, 0, 0) := by decide +kernel
theorem q119_96 : am_look 119 96 = some (.bipush 100, 98, 0, 0, 100) := by decide +kernel
theorem q119_98 : am_look 119 98 = some (.irem, 99, 0, 0, 0) := by decide +kernel
theorem q119_99 : am_look 119 99 = some (.iastore, 100, 0, 0, 0) := by decide +kernel
theorem q119_100 : am_look 119 100 = some (.aload_n 0, 101, 0, 0, 0) := by decide +kernel
theorem q119_101 : am_look 119 101 = some (.getfield 7, 104, 768, 0, 0) := by decide +kernel
theorem q119_104 : am_look 119 104 = some (.bipush 10, 106, 0, 0, 10) := by decide +kernel
theorem q119_106 : am_look 119 106 = some (.iconst 3, 107, 0, 0, 3) := by decide +kernel
theorem q119_107 : am_look 119 107 = some (.iload_n 3, 108, 3, 0, 0) := by decide +kernel
theorem q119_108 : am_look 119 108 = some (.imul, 109, 0, 0, 0) := by decide +kernel
theorem q119_109 : am_look 119 109 = some (.iadd, 110, 0, 0, 0) := by decide +kernel
theorem q119_110 : am_look 119 110 = some (.iconst 2, 111, 0, 0, 2) := by decide +kernel
theorem q119_111 : am_look 119 111 = some (.iadd, 112, 0, 0, 0) := by decide +kernel
theorem q119_112 : am_look 119 112 = some (.iload_n 2, 113, 2, 0, 0) := by decide +kernel
theorem q119_113 : am_look 119 113 = some (.iastore, 114, 0, 0, 0) := by decide +kernel
theorem q119_114 : am_look 119 114 = some (.iconst 0, 115, 0, 0, 0) := by decide +kernel
theorem q119_115 : am_look 119 115 = some (.istore 4, 117, 4, 0, 0) := by decide +kernel
theorem q119_117 : am_look 119 117 = some (.iload 4, 119, 4, 0, 0) := by decide +kernel
theorem q119_119 : am_look 119 119 = some (.bipush 12, 121, 0, 0, 12) := by decide +kernel
theorem q119_121 : am_look 119 121 = some (.if_icmp .ge 41, 124, 162, 0, 0) := by decide +kernel
theorem q119_124 : am_look 119 124 = some (.aload_n 0, 125, 0, 0, 0) := by decide +kernel
theorem q119_125 : am_look 119 125 = some (.getfield 7, 128, 768, 0, 0) := by decide +kernel
theorem q119_128 : am_look 119 128 = some (.bipush 46, 130, 0, 0, 46) := by decide +kernel
theorem q119_130 : am_look 119 130 = some (.bipush 12, 132, 0, 0, 12) := by decide +kernel
theorem q119_132 : am_look 119 132 = some (.iload_n 3, 133, 3, 0, 0) := by decide +kernel
theorem q119_133 : am_look 119 133 = some (.imul, 134, 0, 0, 0) := by decide +kernel
theorem q119_134 : am_look 119 134 = some (.iadd, 135, 0, 0, 0) := by decide +kernel
theorem q119_135 : am_look 119 135 = some (.iload 4, 137, 4, 0, 0) := by decide +kernel
theorem q119_137 : am_look 119 137 = some (.iadd, 138, 0, 0, 0) := by decide +kernel
theorem q119_138 : am_look 119 138 = some (.iconst 0, 139, 0, 0, 0) := by decide +kernel
theorem q119_139 : am_look 119 139 = some (.iastore, 140, 0, 0, 0) := by decide +kernel
theorem q119_140 : am_look 119 140 = some (.aload_n 0, 141, 0, 0, 0) := by decide +kernel
theorem q119_141 : am_look 119 141 = some (.getfield 7, 144, 768, 0, 0) := by decide +kernel
theorem q119_144 : am_look 119 144 = some (.bipush 46, 146, 0, 0, 46) := by decide +kernel
theorem q119_146 : am_look 119 146 = some (.bipush 12, 148, 0, 0, 12) := by decide +kernel
theorem q119_148 : am_look 119 148 = some (.iload 4, 150, 4, 0, 0) := by decide +kernel
theorem q119_150 : am_look 119 150 = some (.imul, 151, 0, 0, 0) := by decide +kernel
theorem q119_151 : am_look 119 151 = some (.iadd, 152, 0, 0, 0) := by decide +kernel
theorem q119_152 : am_look 119 152 = some (.iload_n 3, 153, 3, 0, 0) := by decide +kernel
theorem q119_153 : am_look 119 153 = some (.iadd, 154, 0, 0, 0) := by decide +kernel
theorem q119_154 : am_look 119 154 = some (.iconst 0, 155, 0, 0, 0) := by decide +kernel
theorem q119_155 : am_look 119 155 = some (.iastore, 156, 0, 0, 0) := by decide +kernel
theorem q119_156 : am_look 119 156 = some (.iinc 4 1, 159, 4, 0, 1) := by decide +kernel
theorem q119_159 : am_look 119 159 = some (.goto (-42), 162, 117, 0, 0) := by decide +kernel
theorem q119_162 : am_look 119 162 = some (.iload_n 3, 163, 3, 0, 0) := by decide +kernel
theorem q119_163 : am_look 119 163 = some (.ireturn, 164, 0, 0, 0) := by decide +kernel
theorem zb119 : am_zb 119 = false := by decide +kernel
theorem ml119 : am_ml 119 = 5 := by decide +kernel
theorem np119 : am_np 119 + (if am_sc 119 then 0 else 1) = 3 := by decide +kernel
theorem st119 {d : Nat} {h h1 : am_H} {r : Option am_V} (p0 : Nat) (a1 : Int) (a2 : Int) (H : am_x (am_cd d) 119 (fun r2 h2 => r2 = r ∧ h2 = h1) 0 0 [some (.inr (.inr p0)), some (.inl a1), some (.inl a2), none, none] [] h) : am_cd (d + 1) 119 [.inr (.inr p0), .inl a1, .inl a2] h r h1 := by
  refine ⟨⟨by rw [ml119]; simp [am_en], by rw [np119]; rfl⟩, ?_⟩
  rw [ml119]; exact H
theorem q120_0 : am_look 120 0 = some (.iconst 0, 1, 0, 0, 0) := by decide +kernel
theorem q120_1 : am_look 120 1 = some (.istore_n 2, 2, 2, 0, 0) := by decide +kernel
theorem q120_2 : am_look 120 2 = some (.iload_n 2, 3, 2, 0, 0) := by decide +kernel
theorem q120_3 : am_look 120 3 = some (.bipush 12, 5, 0, 0, 12) := by decide +kernel
theorem q120_5 : am_look 120 5 = some (.if_icmp .ge 25, 8, 30, 0, 0) := by decide +kernel
theorem q120_8 : am_look 120 8 = some (.aload_n 0, 9, 0, 0, 0) := by decide +kernel
theorem q120_9 : am_look 120 9 = some (.getfield 16, 12, 772, 4, 0) := by decide +kernel
theorem q120_12 : am_look 120 12 = some (.iload_n 2, 13, 2, 0, 0) := by decide +kernel
theorem q120_13 : am_look 120 13 = some (.iload_n 2, 14, 2, 0, 0) := by decide +kernel
theorem q120_14 : am_look 120 14 = some (.iload_n 1, 15, 1, 0, 0) := by decide +kernel
theorem q120_15 : am_look 120 15 = some (.if_icmp .ne 7, 18, 22, 0, 0) := by decide +kernel
theorem q120_18 : am_look 120 18 = some (.iconst 0, 19, 0, 0, 0) := by decide +kernel
theorem q120_19 : am_look 120 19 = some (.goto 4, 22, 23, 0, 0) := by decide +kernel
theorem q120_22 : am_look 120 22 = some (.iconst (-1), 23, 0, 0, (-1)) := by decide +kernel
theorem q120_23 : am_look 120 23 = some (.iastore, 24, 0, 0, 0) := by decide +kernel
theorem q120_24 : am_look 120 24 = some (.iinc 2 1, 27, 2, 0, 1) := by decide +kernel
theorem q120_27 : am_look 120 27 = some (.goto (-25), 30, 2, 0, 0) := by decide +kernel
theorem q120_30 : am_look 120 30 = some (.iconst 1, 31, 0, 0, 1) := by decide +kernel
theorem q120_31 : am_look 120 31 = some (.istore_n 2, 32, 2, 0, 0) := by decide +kernel
theorem q120_32 : am_look 120 32 = some (.iload_n 2, 33, 2, 0, 0) := by decide +kernel
theorem q120_33 : am_look 120 33 = some (.ifCond .eq 117, 36, 150, 0, 0) := by decide +kernel
theorem q120_36 : am_look 120 36 = some (.iconst 0, 37, 0, 0, 0) := by decide +kernel
theorem q120_37 : am_look 120 37 = some (.istore_n 2, 38, 2, 0, 0) := by decide +kernel
theorem q120_38 : am_look 120 38 = some (.iconst 0, 39, 0, 0, 0) := by decide +kernel
theorem q120_39 : am_look 120 39 = some (.istore_n 3, 40, 3, 0, 0) := by decide +kernel
theorem q120_40 : am_look 120 40 = some (.iload_n 3, 41, 3, 0, 0) := by decide +kernel
theorem q120_41 : am_look 120 41 = some (.aload_n 0, 42, 0, 0, 0) := by decide +kernel
theorem q120_42 : am_look 120 42 = some (.getfield 7, 45, 768, 0, 0) := by decide +kernel
theorem q120_45 : am_look 120 45 = some (.iconst 0, 46, 0, 0, 0) := by decide +kernel
theorem q120_46 : am_look 120 46 = some (.iaload, 47, 0, 0, 0) := by decide +kernel
theorem q120_47 : am_look 120 47 = some (.if_icmp .ge 100, 50, 147, 0, 0) := by decide +kernel
theorem q120_50 : am_look 120 50 = some (.iconst 0, 51, 0, 0, 0) := by decide +kernel
theorem q120_51 : am_look 120 51 = some (.istore 4, 53, 4, 0, 0) := by decide +kernel
theorem q120_53 : am_look 120 53 = some (.iload 4, 55, 4, 0, 0) := by decide +kernel
theorem q120_55 : am_look 120 55 = some (.aload_n 0, 56, 0, 0, 0) := by decide +kernel
theorem q120_56 : am_look 120 56 = some (.getfield 7, 59, 768, 0, 0) := by decide +kernel
theorem q120_59 : am_look 120 59 = some (.iconst 0, 60, 0, 0, 0) := by decide +kernel
theorem q120_60 : am_look 120 60 = some (.iaload, 61, 0, 0, 0) := by decide +kernel
theorem q120_61 : am_look 120 61 = some (.if_icmp .ge 80, 64, 141, 0, 0) := by decide +kernel
theorem q120_64 : am_look 120 64 = some (.aload_n 0, 65, 0, 0, 0) := by decide +kernel
theorem q120_65 : am_look 120 65 = some (.getfield 16, 68, 772, 4, 0) := by decide +kernel
theorem q120_68 : am_look 120 68 = some (.iload_n 3, 69, 3, 0, 0) := by decide +kernel
theorem q120_69 : am_look 120 69 = some (.iaload, 70, 0, 0, 0) := by decide +kernel
theorem q120_70 : am_look 120 70 = some (.ifCond .lt 71, 73, 141, 0, 0) := by decide +kernel
theorem q120_73 : am_look 120 73 = some (.aload_n 0, 74, 0, 0, 0) := by decide +kernel
theorem q120_74 : am_look 120 74 = some (.getfield 16, 77, 772, 4, 0) := by decide +kernel
theorem q120_77 : am_look 120 77 = some (.iload_n 3, 78, 3, 0, 0) := by decide +kernel
theorem q120_78 : am_look 120 78 = some (.iaload, 79, 0, 0, 0) := by decide +kernel
theorem q120_79 : am_look 120 79 = some (.aload_n 0, 80, 0, 0, 0) := by decide +kernel
theorem q120_80 : am_look 120 80 = some (.iload_n 3, 81, 3, 0, 0) := by decide +kernel
theorem q120_81 : am_look 120 81 = some (.iload 4, 83, 4, 0, 0) := by decide +kernel
theorem q120_83 : am_look 120 83 = some (.invokevirtual 105, 86, 76, 3, 12) := by decide +kernel
theorem q120_86 : am_look 120 86 = some (.iadd, 87, 0, 0, 0) := by decide +kernel
theorem q120_87 : am_look 120 87 = some (.istore 5, 89, 5, 0, 0) := by decide +kernel
theorem q120_89 : am_look 120 89 = some (.aload_n 0, 90, 0, 0, 0) := by decide +kernel
theorem q120_90 : am_look 120 90 = some (.iload_n 3, 91, 3, 0, 0) := by decide +kernel
theorem q120_91 : am_look 120 91 = some (.iload 4, 93, 4, 0, 0) := by decide +kernel
theorem q120_93 : am_look 120 93 = some (.invokevirtual 105, 96, 76, 3, 12) := by decide +kernel
theorem q120_96 : am_look 120 96 = some (.ifCond .eq 39, 99, 135, 0, 0) := by decide +kernel
theorem q120_99 : am_look 120 99 = some (.aload_n 0, 100, 0, 0, 0) := by decide +kernel
theorem q120_100 : am_look 120 100 = some (.getfield 16, 103, 772, 4, 0) := by decide +kernel
theorem q120_103 : am_look 120 103 = some (.iload 4, 105, 4, 0, 0) := by decide +kernel
theorem q120_105 : am_look 120 105 = some (.iaload, 106, 0, 0, 0) := by decide +kernel
theorem q120_106 : am_look 120 106 = some (.ifCond .lt 18, 109, 124, 0, 0) := by decide +kernel
theorem q120_109 : am_look 120 109 = some (.aload_n 0, 110, 0, 0, 0) := by decide +kernel
theorem q120_110 : am_look 120 110 = some (.getfield 16, 113, 772, 4, 0) := by decide +kernel
theorem q120_113 : am_look 120 113 = some (.iload 4, 115, 4, 0, 0) := by decide +kernel
theorem q120_115 : am_look 120 115 = some (.iaload, 116, 0, 0, 0) := by decide +kernel
theorem q120_116 : am_look 120 116 = some (.iload 5, 118, 5, 0, 0) := by decide +kernel
theorem q120_118 : am_look 120 118 = some (.if_icmp .gt 6, 121, 124, 0, 0) := by decide +kernel
theorem q120_121 : am_look 120 121 = some (.goto 14, 124, 135, 0, 0) := by decide +kernel
theorem q120_124 : am_look 120 124 = some (.aload_n 0, 125, 0, 0, 0) := by decide +kernel
theorem q120_125 : am_look 120 125 = some (.getfield 16, 128, 772, 4, 0) := by decide +kernel
theorem q120_128 : am_look 120 128 = some (.iload 4, 130, 4, 0, 0) := by decide +kernel
theorem q120_130 : am_look 120 130 = some (.iload 5, 132, 5, 0, 0) := by decide +kernel
theorem q120_132 : am_look 120 132 = some (.iastore, 133, 0, 0, 0) := by decide +kernel
theorem q120_133 : am_look 120 133 = some (.iconst 1, 134, 0, 0, 1) := by decide +kernel
theorem q120_134 : am_look 120 134 = some (.istore_n 2, 135, 2, 0, 0) := by decide +kernel
theorem q120_135 : am_look 120 135 = some (.iinc 4 1, 138, 4, 0, 1) := by decide +kernel
theorem q120_138 : am_look 120 138 = some (.goto (-85), 141, 53, 0, 0) := by decide +kernel
theorem q120_141 : am_look 120 141 = some (.iinc 3 1, 144, 3, 0, 1) := by decide +kernel
theorem q120_144 : am_look 120 144 = some (.goto (-104), 147, 40, 0, 0) := by decide +kernel
theorem q120_147 : am_look 120 147 = some (.goto (-115), 150, 32, 0, 0) := by decide +kernel
theorem q120_150 : am_look 120 150 = some (.return_, 151, 0, 0, 0) := by decide +kernel
theorem zb120 : am_zb 120 = false := by decide +kernel
theorem ml120 : am_ml 120 = 6 := by decide +kernel
theorem np120 : am_np 120 + (if am_sc 120 then 0 else 1) = 2 := by decide +kernel
theorem st120 {d : Nat} {h h1 : am_H} {r : Option am_V} (p0 : Nat) (a1 : Int) (H : am_x (am_cd d) 120 (fun r2 h2 => r2 = r ∧ h2 = h1) 0 0 [some (.inr (.inr p0)), some (.inl a1), none, none, none, none] [] h) : am_cd (d + 1) 120 [.inr (.inr p0), .inl a1] h r h1 := by
  refine ⟨⟨by rw [ml120]; simp [am_en], by rw [np120]; rfl⟩, ?_⟩
  rw [ml120]; exact H
theorem q121_0 : am_look 121 0 = some (.iload_n 1, 1, 1, 0, 0) := by decide +kernel
theorem q121_1 : am_look 121 1 = some (.aload_n 0, 2, 0, 0, 0) := by decide +kernel
theorem q121_2 : am_look 121 2 = some (.getfield 7, 5, 768, 0, 0) := by decide +kernel
theorem q121_5 : am_look 121 5 = some (.iconst 4, 6, 0, 0, 4) := by decide +kernel
theorem q121_6 : am_look 121 6 = some (.iaload, 7, 0, 0, 0) := by decide +kernel
theorem q121_7 : am_look 121 7 = some (.sipush 999, 10, 0, 0, 999) := by decide +kernel
theorem q121_10 : am_look 121 10 = some (.invokestatic 83, 13, 73, 3, 99) := by decide +kernel
theorem q121_13 : am_look 121 13 = some (.ifCond .ne 10, 16, 23, 0, 0) := by decide +kernel
theorem q121_16 : am_look 121 16 = some (.aload_n 0, 17, 0, 0, 0) := by decide +kernel
theorem q121_17 : am_look 121 17 = some (.ldc 95, 19, 0, 0, (-100001)) := by decide +kernel
theorem q121_19 : am_look 121 19 = some (.invokevirtual 91, 22, 74, 2, 12) := by decide +kernel
theorem q121_22 : am_look 121 22 = some (.ireturn, 23, 0, 0, 0) := by decide +kernel
theorem q121_23 : am_look 121 23 = some (.aload_n 0, 24, 0, 0, 0) := by decide +kernel
theorem q121_24 : am_look 121 24 = some (.invokevirtual 97, 27, 77, 1, 12) := by decide +kernel
theorem q121_27 : am_look 121 27 = some (.aload_n 0, 28, 0, 0, 0) := by decide +kernel
theorem q121_28 : am_look 121 28 = some (.getfield 7, 31, 768, 0, 0) := by decide +kernel
theorem q121_31 : am_look 121 31 = some (.iconst 4, 32, 0, 0, 4) := by decide +kernel
theorem q121_32 : am_look 121 32 = some (.iaload, 33, 0, 0, 0) := by decide +kernel
theorem q121_33 : am_look 121 33 = some (.istore_n 2, 34, 2, 0, 0) := by decide +kernel
theorem q121_34 : am_look 121 34 = some (.aload_n 0, 35, 0, 0, 0) := by decide +kernel
theorem q121_35 : am_look 121 35 = some (.getfield 7, 38, 768, 0, 0) := by decide +kernel
theorem q121_38 : am_look 121 38 = some (.iconst 4, 39, 0, 0, 4) := by decide +kernel
theorem q121_39 : am_look 121 39 = some (.iload_n 1, 40, 1, 0, 0) := by decide +kernel
theorem q121_40 : am_look 121 40 = some (.iastore, 41, 0, 0, 0) := by decide +kernel
theorem q121_41 : am_look 121 41 = some (.iload_n 2, 42, 2, 0, 0) := by decide +kernel
theorem q121_42 : am_look 121 42 = some (.ireturn, 43, 0, 0, 0) := by decide +kernel
theorem zb121 : am_zb 121 = false := by decide +kernel
theorem ml121 : am_ml 121 = 3 := by decide +kernel
theorem np121 : am_np 121 + (if am_sc 121 then 0 else 1) = 2 := by decide +kernel
theorem st121 {d : Nat} {h h1 : am_H} {r : Option am_V} (p0 : Nat) (a1 : Int) (H : am_x (am_cd d) 121 (fun r2 h2 => r2 = r ∧ h2 = h1) 0 0 [some (.inr (.inr p0)), some (.inl a1), none] [] h) : am_cd (d + 1) 121 [.inr (.inr p0), .inl a1] h r h1 := by
  refine ⟨⟨by rw [ml121]; simp [am_en], by rw [np121]; rfl⟩, ?_⟩
  rw [ml121]; exact H
theorem q122_0 : am_look 122 0 = some (.iload_n 1, 1, 1, 0, 0) := by decide +kernel
theorem q122_1 : am_look 122 1 = some (.iconst 0, 2, 0, 0, 0) := by decide +kernel
theorem q122_2 : am_look 122 2 = some (.aload_n 0, 3, 0, 0, 0) := by decide +kernel
theorem q122_3 : am_look 122 3 = some (.getfield 7, 6, 768, 0, 0) := by decide +kernel
theorem q122_6 : am_look 122 6 = some (.iconst 1, 7, 0, 0, 1) := by decide +kernel
theorem q122_7 : am_look 122 7 = some (.iaload, 8, 0, 0, 0) := by decide +kernel
theorem q122_8 : am_look 122 8 = some (.iconst 1, 9, 0, 0, 1) := by decide +kernel
theorem q122_9 : am_look 122 9 = some (.isub, 10, 0, 0, 0) := by decide +kernel
theorem q122_10 : am_look 122 10 = some (.invokestatic 83, 13, 73, 3, 99) := by decide +kernel
theorem q122_13 : am_look 122 13 = some (.ifCond .eq 12, 16, 25, 0, 0) := by decide +kernel
theorem q122_16 : am_look 122 16 = some (.iload_n 2, 17, 2, 0, 0) := by decide +kernel
theorem q122_17 : am_look 122 17 = some (.iconst 0, 18, 0, 0, 0) := by decide +kernel
theorem q122_18 : am_look 122 18 = some (.iconst 3, 19, 0, 0, 3) := by decide +kernel
theorem q122_19 : am_look 122 19 = some (.invokestatic 83, 22, 73, 3, 99) := by decide +kernel
theorem q122_22 : am_look 122 22 = some (.ifCond .ne 10, 25, 32, 0, 0) := by decide +kernel
theorem q122_25 : am_look 122 25 = some (.aload_n 0, 26, 0, 0, 0) := by decide +kernel
theorem q122_26 : am_look 122 26 = some (.ldc 95, 28, 0, 0, (-100001)) := by decide +kernel
theorem q122_28 : am_look 122 28 = some (.invokevirtual 91, 31, 74, 2, 12) := by decide +kernel
theorem q122_31 : am_look 122 31 = some (.ireturn, 32, 0, 0, 0) := by decide +kernel
theorem q122_32 : am_look 122 32 = some (.aload_n 0, 33, 0, 0, 0) := by decide +kernel
theorem q122_33 : am_look 122 33 = some (.getfield 7, 36, 768, 0, 0) := by decide +kernel
theorem q122_36 : am_look 122 36 = some (.sipush 190, 39, 0, 0, 190) := by decide +kernel
theorem q122_39 : am_look 122 39 = some (.iconst 3, 40, 0, 0, 3) := by decide +kernel
theorem q122_40 : am_look 122 40 = some (.iload_n 1, 41, 1, 0, 0) := by decide +kernel
theorem q122_41 : am_look 122 41 = some (.imul, 42, 0, 0, 0) := by decide +kernel
theorem q122_42 : am_look 122 42 = some (.iadd, 43, 0, 0, 0) := by decide +kernel
theorem q122_43 : am_look 122 43 = some (.iconst 1, 44, 0, 0, 1) := by decide +kernel
theorem q122_44 : am_look 122 44 = some (.iadd, 45, 0, 0, 0) := by decide +kernel
theorem q122_45 : am_look 122 45 = some (.iaload, 46, 0, 0, 0) := by decide +kernel
theorem q122_46 : am_look 122 46 = some (.istore_n 3, 47, 3, 0, 0) := by decide +kernel
theorem q122_47 : am_look 122 47 = some (.iload_n 2, 48, 2, 0, 0) := by decide +kernel
theorem q122_48 : am_look 122 48 = some (.ifCond .eq 18, 51, 66, 0, 0) := by decide +kernel
theorem q122_51 : am_look 122 51 = some (.iload_n 2, 52, 2, 0, 0) := by decide +kernel
theorem q122_52 : am_look 122 52 = some (.iload_n 3, 53, 3, 0, 0) := by decide +kernel
theorem q122_53 : am_look 122 53 = some (.if_icmp .eq 13, 56, 66, 0, 0) := by decide +kernel
theorem q122_56 : am_look 122 56 = some (.iload_n 2, 57, 2, 0, 0) := by decide +kernel
theorem q122_57 : am_look 122 57 = some (.iconst 1, 58, 0, 0, 1) := by decide +kernel
theorem q122_58 : am_look 122 58 = some (.if_icmp .ne 16, 61, 74, 0, 0) := by decide +kernel
theorem q122_61 : am_look 122 61 = some (.iload_n 3, 62, 3, 0, 0) := by decide +kernel
theorem q122_62 : am_look 122 62 = some (.iconst 3, 63, 0, 0, 3) := by decide +kernel
theorem q122_63 : am_look 122 63 = some (.if_icmp .ne 11, 66, 74, 0, 0) := by decide +kernel
theorem q122_66 : am_look 122 66 = some (.aload_n 0, 67, 0, 0, 0) := by decide +kernel
theorem q122_67 : am_look 122 67 = some (.iload_n 1, 68, 1, 0, 0) := by decide +kernel
theorem q122_68 : am_look 122 68 = some (.invokevirtual 114, 71, 78, 2, 12) := by decide +kernel
theorem q122_71 : am_look 122 71 = some (.goto 9, 74, 80, 0, 0) := by decide +kernel
theorem q122_74 : am_look 122 74 = some (.aload_n 0, 75, 0, 0, 0) := by decide +kernel
theorem q122_75 : am_look 122 75 = some (.ldc 117, 77, 0, 0, (-100004)) := by decide +kernel
theorem q122_77 : am_look 122 77 = some (.invokevirtual 91, 80, 74, 2, 12) := by decide +kernel
theorem q122_80 : am_look 122 80 = some (.ireturn, 81, 0, 0, 0) := by decide +kernel
theorem zb122 : am_zb 122 = false := by decide +kernel
theorem ml122 : am_ml 122 = 4 := by decide +kernel
theorem np122 : am_np 122 + (if am_sc 122 then 0 else 1) = 3 := by decide +kernel
theorem st122 {d : Nat} {h h1 : am_H} {r : Option am_V} (p0 : Nat) (a1 : Int) (a2 : Int) (H : am_x (am_cd d) 122 (fun r2 h2 => r2 = r ∧ h2 = h1) 0 0 [some (.inr (.inr p0)), some (.inl a1), some (.inl a2), none] [] h) : am_cd (d + 1) 122 [.inr (.inr p0), .inl a1, .inl a2] h r h1 := by
  refine ⟨⟨by rw [ml122]; simp [am_en], by rw [np122]; rfl⟩, ?_⟩
  rw [ml122]; exact H
theorem q123_0 : am_look 123 0 = some (.iload_n 1, 1, 1, 0, 0) := by decide +kernel
theorem q123_1 : am_look 123 1 = some (.iconst 1, 2, 0, 0, 1) := by decide +kernel
theorem q123_2 : am_look 123 2 = some (.bipush 8, 4, 0, 0, 8) := by decide +kernel
theorem q123_4 : am_look 123 4 = some (.invokestatic 83, 7, 73, 3, 99) := by decide +kernel
theorem q123_7 : am_look 123 7 = some (.istore 4, 9, 4, 0, 0) := by decide +kernel
theorem q123_9 : am_look 123 9 = some (.iconst 0, 10, 0, 0, 0) := by decide +kernel
theorem q123_10 : am_look 123 10 = some (.istore 5, 12, 5, 0, 0) := by decide +kernel
theorem q123_12 : am_look 123 12 = some (.iload 5, 14, 5, 0, 0) := by decide +kernel
theorem q123_14 : am_look 123 14 = some (.iload_n 1, 15, 1, 0, 0) := by decide +kernel
theorem q123_15 : am_look 123 15 = some (.if_icmp .ge 39, 18, 54, 0, 0) := by decide +kernel
theorem q123_18 : am_look 123 18 = some (.iload 4, 20, 4, 0, 0) := by decide +kernel
theorem q123_20 : am_look 123 20 = some (.ifCond .eq 34, 23, 54, 0, 0) := by decide +kernel
theorem q123_23 : am_look 123 23 = some (.lload_n 2, 24, 2, 0, 0) := by decide +kernel
theorem q123_24 : am_look 123 24 = some (.bipush 8, 26, 0, 0, 8) := by decide +kernel
theorem q123_26 : am_look 123 26 = some (.iload 5, 28, 5, 0, 0) := by decide +kernel
theorem q123_28 : am_look 123 28 = some (.imul, 29, 0, 0, 0) := by decide +kernel
theorem q123_29 : am_look 123 29 = some (.lshr, 30, 0, 0, 0) := by decide +kernel
theorem q123_30 : am_look 123 30 = some (.ldc2_w 118, 33, 0, 0, 255) := by decide +kernel
theorem q123_33 : am_look 123 33 = some (.land, 34, 0, 0, 0) := by decide +kernel
theorem q123_34 : am_look 123 34 = some (.ldc2_w 120, 37, 0, 0, 26) := by decide +kernel
theorem q123_37 : am_look 123 37 = some (.lcmp, 38, 0, 0, 0) := by decide +kernel
theorem q123_38 : am_look 123 38 = some (.ifCond .ge 7, 41, 45, 0, 0) := by decide +kernel
theorem q123_41 : am_look 123 41 = some (.iconst 1, 42, 0, 0, 1) := by decide +kernel
theorem q123_42 : am_look 123 42 = some (.goto 4, 45, 46, 0, 0) := by decide +kernel
theorem q123_45 : am_look 123 45 = some (.iconst 0, 46, 0, 0, 0) := by decide +kernel
theorem q123_46 : am_look 123 46 = some (.istore 4, 48, 4, 0, 0) := by decide +kernel
theorem q123_48 : am_look 123 48 = some (.iinc 5 1, 51, 5, 0, 1) := by decide +kernel
theorem q123_51 : am_look 123 51 = some (.goto (-39), 54, 12, 0, 0) := by decide +kernel
theorem q123_54 : am_look 123 54 = some (.iload 4, 56, 4, 0, 0) := by decide +kernel
theorem q123_56 : am_look 123 56 = some (.ifCond .ne 10, 59, 66, 0, 0) := by decide +kernel
theorem q123_59 : am_look 123 59 = some (.aload_n 0, 60, 0, 0, 0) := by decide +kernel
theorem q123_60 : am_look 123 60 = some (.ldc 95, 62, 0, 0, (-100001)) := by decide +kernel
theorem q123_62 : am_look 123 62 = some (.invokevirtual 91, 65, 74, 2, 12) := by decide +kernel
theorem q123_65 : am_look 123 65 = some (.ireturn, 66, 0, 0, 0) := by decide +kernel
theorem q123_66 : am_look 123 66 = some (.iconst (-1), 67, 0, 0, (-1)) := by decide +kernel
theorem q123_67 : am_look 123 67 = some (.istore 5, 69, 5, 0, 0) := by decide +kernel
theorem q123_69 : am_look 123 69 = some (.aload_n 0, 70, 0, 0, 0) := by decide +kernel
theorem q123_70 : am_look 123 70 = some (.getfield 7, 73, 768, 0, 0) := by decide +kernel
theorem q123_73 : am_look 123 73 = some (.iconst 2, 74, 0, 0, 2) := by decide +kernel
theorem q123_74 : am_look 123 74 = some (.iaload, 75, 0, 0, 0) := by decide +kernel
theorem q123_75 : am_look 123 75 = some (.iconst 1, 76, 0, 0, 1) := by decide +kernel
theorem q123_76 : am_look 123 76 = some (.isub, 77, 0, 0, 0) := by decide +kernel
theorem q123_77 : am_look 123 77 = some (.istore 6, 79, 6, 0, 0) := by decide +kernel
theorem q123_79 : am_look 123 79 = some (.iload 6, 81, 6, 0, 0) := by decide +kernel
theorem q123_81 : am_look 123 81 = some (.ifCond .lt 90, 84, 171, 0, 0) := by decide +kernel
theorem q123_84 : am_look 123 84 = some (.aload_n 0, 85, 0, 0, 0) := by decide +kernel
theorem q123_85 : am_look 123 85 = some (.iload 6, 87, 6, 0, 0) := by decide +kernel
theorem q123_87 : am_look 123 87 = some (.invokevirtual 122, 90, 80, 2, 12) := by decide +kernel
theorem q123_90 : am_look 123 90 = some (.iload_n 1, 91, 1, 0, 0) := by decide +kernel
theorem q123_91 : am_look 123 91 = some (.if_icmp .ne 7, 94, 98, 0, 0) := by decide +kernel
theorem q123_94 : am_look 123 94 = some (.iconst 1, 95, 0, 0, 1) := by decide +kernel
theorem q123_95 : am_look 123 95 = some (.goto 4, 98, 99, 0, 0) := by decide +kernel
theorem q123_98 : am_look 123 98 = some (.iconst 0, 99, 0, 0, 0) := by decide +kernel
theorem q123_99 : am_look 123 99 = some (.istore 7, 101, 7, 0, 0) := by decide +kernel
theorem q123_101 : am_look 123 101 = some (.iconst 0, 102, 0, 0, 0) := by decide +kernel
theorem q123_102 : am_look 123 102 = some (.istore 8, 104, 8, 0, 0) := by decide +kernel
theorem q123_104 : am_look 123 104 = some (.iload 8, 106, 8, 0, 0) := by decide +kernel
theorem q123_106 : am_look 123 106 = some (.iload_n 1, 107, 1, 0, 0) := by decide +kernel
theorem q123_107 : am_look 123 107 = some (.if_icmp .ge 44, 110, 151, 0, 0) := by decide +kernel
theorem q123_110 : am_look 123 110 = some (.iload 7, 112, 7, 0, 0) := by decide +kernel
theorem q123_112 : am_look 123 112 = some (.ifCond .eq 39, 115, 151, 0, 0) := by decide +kernel
theorem q123_115 : am_look 123 115 = some (.aload_n 0, 116, 0, 0, 0) := by decide +kernel
theorem q123_116 : am_look 123 116 = some (.iload 6, 118, 6, 0, 0) := by decide +kernel
theorem q123_118 : am_look 123 118 = some (.iload 8, 120, 8, 0, 0) := by decide +kernel
theorem q123_120 : am_look 123 120 = some (.invokevirtual 125, 123, 79, 3, 12) := by decide +kernel
theorem q123_123 : am_look 123 123 = some (.lload_n 2, 124, 2, 0, 0) := by decide +kernel
theorem q123_124 : am_look 123 124 = some (.bipush 8, 126, 0, 0, 8) := by decide +kernel
theorem q123_126 : am_look 123 126 = some (.iload 8, 128, 8, 0, 0) := by decide +kernel
theorem q123_128 : am_look 123 128 = some (.imul, 129, 0, 0, 0) := by decide +kernel
theorem q123_129 : am_look 123 129 = some (.lshr, 130, 0, 0, 0) := by decide +kernel
theorem q123_130 : am_look 123 130 = some (.ldc2_w 118, 133, 0, 0, 255) := by decide +kernel
theorem q123_133 : am_look 123 133 = some (.land, 134, 0, 0, 0) := by decide +kernel
theorem q123_134 : am_look 123 134 = some (.l2i, 135, 0, 0, 0) := by decide +kernel
theorem q123_135 : am_look 123 135 = some (.if_icmp .ne 7, 138, 142, 0, 0) := by decide +kernel
theorem q123_138 : am_look 123 138 = some (.iconst 1, 139, 0, 0, 1) := by decide +kernel
theorem q123_139 : am_look 123 139 = some (.goto 4, 142, 143, 0, 0) := by decide +kernel
theorem q123_142 : am_look 123 142 = some (.iconst 0, 143, 0, 0, 0) := by decide +kernel
theorem q123_143 : am_look 123 143 = some (.istore 7, 145, 7, 0, 0) := by decide +kernel
theorem q123_145 : am_look 123 145 = some (.iinc 8 1, 148, 8, 0, 1) := by decide +kernel
theorem q123_148 : am_look 123 148 = some (.goto (-44), 151, 104, 0, 0) := by decide +kernel
theorem q123_151 : am_look 123 151 = some (.iload 7, 153, 7, 0, 0) := by decide +kernel
theorem q123_153 : am_look 123 153 = some (.ifCond .eq 8, 156, 161, 0, 0) := by decide +kernel
theorem q123_156 : am_look 123 156 = some (.iload 6, 158, 6, 0, 0) := by decide +kernel
theorem q123_158 : am_look 123 158 = some (.goto 5, 161, 163, 0, 0) := by decide +kernel
theorem q123_161 : am_look 123 161 = some (.iload 5, 163, 5, 0, 0) := by decide +kernel
theorem q123_163 : am_look 123 163 = some (.istore 5, 165, 5, 0, 0) := by decide +kernel
theorem q123_165 : am_look 123 165 = some (.iinc 6 (-1), 168, 6, 0, (-1)) := by decide +kernel
theorem q123_168 : am_look 123 168 = some (.goto (-89), 171, 79, 0, 0) := by decide +kernel
theorem q123_171 : am_look 123 171 = some (.iload 5, 173, 5, 0, 0) := by decide +kernel
theorem q123_173 : am_look 123 173 = some (.ifCond .ge 21, 176, 194, 0, 0) := by decide +kernel
theorem q123_176 : am_look 123 176 = some (.aload_n 0, 177, 0, 0, 0) := by decide +kernel
theorem q123_177 : am_look 123 177 = some (.getfield 7, 180, 768, 0, 0) := by decide +kernel
theorem q123_180 : am_look 123 180 = some (.iconst 2, 181, 0, 0, 2) := by decide +kernel
theorem q123_181 : am_look 123 181 = some (.iaload, 182, 0, 0, 0) := by decide +kernel
theorem q123_182 : am_look 123 182 = some (.bipush 30, 184, 0, 0, 30) := by decide +kernel
theorem q123_184 : am_look 123 184 = some (.if_icmp .ne 10, 187, 194, 0, 0) := by decide +kernel
theorem q123_187 : am_look 123 187 = some (.aload_n 0, 188, 0, 0, 0) := by decide +kernel
theorem q123_188 : am_look 123 188 = some (.ldc 96, 190, 0, 0, (-100005)) := by decide +kernel
theorem q123_190 : am_look 123 190 = some (.invokevirtual 91, 193, 74, 2, 12) := by decide +kernel
theorem q123_193 : am_look 123 193 = some (.ireturn, 194, 0, 0, 0) := by decide +kernel
theorem q123_194 : am_look 123 194 = some (.aload_n 0, 195, 0, 0, 0) := by decide +kernel
theorem q123_195 : am_look 123 195 = some (.invokevirtual 97, 198, 77, 1, 12) := by decide +kernel
theorem q123_198 : am_look 123 198 = some (.iload 5, 200, 5, 0, 0) := by decide +kernel
theorem q123_200 : am_look 123 200 = some (.ifCond .lt 6, 203, 206, 0, 0) := by decide +kernel
theorem q123_203 : am_look 123 203 = some (.iload 5, 205, 5, 0, 0) := by decide +kernel
theorem q123_205 : am_look 123 205 = some (.ireturn, 206, 0, 0, 0) := by decide +kernel
theorem q123_206 : am_look 123 206 = some (.aload_n 0, 207, 0, 0, 0) := by decide +kernel
theorem q123_207 : am_look 123 207 = some (.getfield 7, 210, 768, 0, 0) := by decide +kernel
theorem q123_210 : am_look 123 210 = some (.iconst 2, 211, 0, 0, 2) := by decide +kernel
theorem q123_211 : am_look 123 211 = some (.iaload, 212, 0, 0, 0) := by decide +kernel
theorem q123_212 : am_look 123 212 = some (.istore 6, 214, 6, 0, 0) := by decide +kernel
theorem q123_214 : am_look 123 214 = some (.aload_n 0, 215, 0, 0, 0) := by decide +kernel
theorem q123_215 : am_look 123 215 = some (.getfield 7, 218, 768, 0, 0) := by decide +kernel
theorem q123_218 : am_look 123 218 = some (.iconst 2, 219, 0, 0, 2) := by decide +kernel
theorem q123_219 : am_look 123 219 = some (.dup2, 220, 0, 0, 0) := by decide +kernel
theorem q123_220 : am_look 123 220 = some (.iaload, 221, 0, 0, 0) := by decide +kernel
theorem q123_221 : am_look 123 221 = some (.iconst 1, 222, 0, 0, 1) := by decide +kernel
theorem q123_222 : am_look 123 222 = some (.iadd, 223, 0, 0, 0) := by decide +kernel
theorem q123_223 : am_look 123 223 = some (.iastore, 224, 0, 0, 0) := by decide +kernel
theorem q123_224 : am_look 123 224 = some (.aload_n 0, 225, 0, 0, 0) := by decide +kernel
theorem q123_225 : am_look 123 225 = some (.getfield 7, 228, 768, 0, 0) := by decide +kernel
theorem q123_228 : am_look 123 228 = some (.sipush 250, 231, 0, 0, 250) := by decide +kernel
theorem q123_231 : am_look 123 231 = some (.bipush 9, 233, 0, 0, 9) := by decide +kernel
theorem q123_233 : am_look 123 233 = some (.iload 6, 235, 6, 0, 0) := by decide +kernel
theorem q123_235 : am_look 123 235 = some (.imul, 236, 0, 0, 0) := by decide +kernel
theorem q123_236 : am_look 123 236 = some (.iadd, 237, 0, 0, 0) := by decide +kernel
theorem q123_237 : am_look 123 237 = some (.iload_n 1, 238, 1, 0, 0) := by decide +kernel
theorem q123_238 : am_look 123 238 = some (.iastore, 239, 0, 0, 0) := by decide +kernel
theorem q123_239 : am_look 123 239 = some (.iconst 0, 240, 0, 0, 0) := by decide +kernel
theorem q123_240 : am_look 123 240 = some (.istore 7, 242, 7, 0, 0) := by decide +kernel
theorem q123_242 : am_look 123 242 = some (.iload 7, 244, 7, 0, 0) := by decide +kernel
theorem q123_244 : am_look 123 244 = some (.iload_n 1, 245, 1, 0, 0) := by decide +kernel
theorem q123_245 : am_look 123 245 = some (.if_icmp .ge 40, 248, 285, 0, 0) := by decide +kernel
theorem q123_248 : am_look 123 248 = some (.aload_n 0, 249, 0, 0, 0) := by decide +kernel
theorem q123_249 : am_look 123 249 = some (.getfield 7, 252, 768, 0, 0) := by decide +kernel
theorem q123_252 : am_look 123 252 = some (.sipush 250, 255, 0, 0, 250) := by decide +kernel
theorem q123_255 : am_look 123 255 = some (.bipush 9, 257, 0, 0, 9) := by decide +kernel
theorem q123_257 : am_look 123 257 = some (.iload 6, 259, 6, 0, 0) := by decide +kernel
theorem q123_259 : am_look 123 259 = some (.imul, 260, 0, 0, 0) := by decide +kernel
theorem q123_260 : am_look 123 260 = some (.iadd, 261, 0, 0, 0) := by decide +kernel
theorem q123_261 : am_look 123 261 = some (.iconst 1, 262, 0, 0, 1) := by decide +kernel
theorem q123_262 : am_look 123 262 = some (.iadd, 263, 0, 0, 0) := by decide +kernel
theorem q123_263 : am_look 123 263 = some (.iload 7, 265, 7, 0, 0) := by decide +kernel
theorem q123_265 : am_look 123 265 = some (.iadd, 266, 0, 0, 0) := by decide +kernel
theorem q123_266 : am_look 123 266 = some (.lload_n 2, 267, 2, 0, 0) := by decide +kernel
theorem q123_267 : am_look 123 267 = some (.bipush 8, 269, 0, 0, 8) := by decide +kernel
theorem q123_269 : am_look 123 269 = some (.iload 7, 271, 7, 0, 0) := by decide +kernel
theorem q123_271 : am_look 123 271 = some (.imul, 272, 0, 0, 0) := by decide +kernel
theorem q123_272 : am_look 123 272 = some (.lshr, 273, 0, 0, 0) := by decide +kernel
theorem q123_273 : am_look 123 273 = some (.ldc2_w 118, 276, 0, 0, 255) := by decide +kernel
theorem q123_276 : am_look 123 276 = some (.land, 277, 0, 0, 0) := by decide +kernel
theorem q123_277 : am_look 123 277 = some (.l2i, 278, 0, 0, 0) := by decide +kernel
theorem q123_278 : am_look 123 278 = some (.iastore, 279, 0, 0, 0) := by decide +kernel
theorem q123_279 : am_look 123 279 = some (.iinc 7 1, 282, 7, 0, 1) := by decide +kernel
theorem q123_282 : am_look 123 282 = some (.goto (-40), 285, 242, 0, 0) := by decide +kernel
theorem q123_285 : am_look 123 285 = some (.iload 6, 287, 6, 0, 0) := by decide +kernel
theorem q123_287 : am_look 123 287 = some (.ireturn, 288, 0, 0, 0) := by decide +kernel
theorem zb123 : am_zb 123 = false := by decide +kernel
theorem ml123 : am_ml 123 = 9 := by decide +kernel
theorem np123 : am_np 123 + (if am_sc 123 then 0 else 1) = 3 := by decide +kernel
theorem st123 {d : Nat} {h h1 : am_H} {r : Option am_V} (p0 : Nat) (a1 : Int) (a2 : Int64) (H : am_x (am_cd d) 123 (fun r2 h2 => r2 = r ∧ h2 = h1) 0 0 [some (.inr (.inr p0)), some (.inl a1), some (.inr (.inl a2)), none, none, none, none, none, none] [] h) : am_cd (d + 1) 123 [.inr (.inr p0), .inl a1, .inr (.inl a2)] h r h1 := by
  refine ⟨⟨by rw [ml123]; simp [am_en], by rw [np123]; rfl⟩, ?_⟩
  rw [ml123]; exact H
theorem q124_0 : am_look 124 0 = some (.iconst 0, 1, 0, 0, 0) := by decide +kernel
theorem q124_1 : am_look 124 1 = some (.istore_n 3, 2, 3, 0, 0) := by decide +kernel
theorem q124_2 : am_look 124 2 = some (.iload_n 3, 3, 3, 0, 0) := by decide +kernel
theorem q124_3 : am_look 124 3 = some (.aload_n 0, 4, 0, 0, 0) := by decide +kernel
theorem q124_4 : am_look 124 4 = some (.iload_n 1, 5, 1, 0, 0) := by decide +kernel
theorem q124_5 : am_look 124 5 = some (.invokevirtual 122, 8, 80, 2, 12) := by decide +kernel
theorem q124_8 : am_look 124 8 = some (.if_icmp .gt 225, 11, 233, 0, 0) := by decide +kernel
theorem q124_11 : am_look 124 11 = some (.iconst 0, 12, 0, 0, 0) := by decide +kernel
theorem q124_12 : am_look 124 12 = some (.istore 4, 14, 4, 0, 0) := by decide +kernel
theorem q124_14 : am_look 124 14 = some (.iload 4, 16, 4, 0, 0) := by decide +kernel
theorem q124_16 : am_look 124 16 = some (.aload_n 0, 17, 0, 0, 0) := by decide +kernel
theorem q124_17 : am_look 124 17 = some (.iload_n 2, 18, 2, 0, 0) := by decide +kernel
theorem q124_18 : am_look 124 18 = some (.invokevirtual 122, 21, 80, 2, 12) := by decide +kernel
theorem q124_21 : am_look 124 21 = some (.if_icmp .gt 206, 24, 227, 0, 0) := by decide +kernel
theorem q124_24 : am_look 124 24 = some (.iload_n 3, 25, 3, 0, 0) := by decide +kernel
theorem q124_25 : am_look 124 25 = some (.ifCond .ne 10, 28, 35, 0, 0) := by decide +kernel
theorem q124_28 : am_look 124 28 = some (.iconst 2, 29, 0, 0, 2) := by decide +kernel
theorem q124_29 : am_look 124 29 = some (.iload 4, 31, 4, 0, 0) := by decide +kernel
theorem q124_31 : am_look 124 31 = some (.imul, 32, 0, 0, 0) := by decide +kernel
theorem q124_32 : am_look 124 32 = some (.goto 6, 35, 38, 0, 0) := by decide +kernel
theorem q124_35 : am_look 124 35 = some (.iconst 2, 36, 0, 0, 2) := by decide +kernel
theorem q124_36 : am_look 124 36 = some (.iload_n 3, 37, 3, 0, 0) := by decide +kernel
theorem q124_37 : am_look 124 37 = some (.imul, 38, 0, 0, 0) := by decide +kernel
theorem q124_38 : am_look 124 38 = some (.istore 5, 40, 5, 0, 0) := by decide +kernel
theorem q124_40 : am_look 124 40 = some (.iload_n 3, 41, 3, 0, 0) := by decide +kernel
theorem q124_41 : am_look 124 41 = some (.ifCond .le 166, 44, 207, 0, 0) := by decide +kernel
theorem q124_44 : am_look 124 44 = some (.iload 4, 46, 4, 0, 0) := by decide +kernel
theorem q124_46 : am_look 124 46 = some (.ifCond .le 161, 49, 207, 0, 0) := by decide +kernel
theorem q124_49 : am_look 124 49 = some (.aload_n 0, 50, 0, 0, 0) := by decide +kernel
theorem q124_50 : am_look 124 50 = some (.iload_n 1, 51, 1, 0, 0) := by decide +kernel
theorem q124_51 : am_look 124 51 = some (.iload_n 3, 52, 3, 0, 0) := by decide +kernel
theorem q124_52 : am_look 124 52 = some (.iconst 1, 53, 0, 0, 1) := by decide +kernel
theorem q124_53 : am_look 124 53 = some (.isub, 54, 0, 0, 0) := by decide +kernel
theorem q124_54 : am_look 124 54 = some (.invokevirtual 125, 57, 79, 3, 12) := by decide +kernel
theorem q124_57 : am_look 124 57 = some (.istore 6, 59, 6, 0, 0) := by decide +kernel
theorem q124_59 : am_look 124 59 = some (.aload_n 0, 60, 0, 0, 0) := by decide +kernel
theorem q124_60 : am_look 124 60 = some (.iload_n 2, 61, 2, 0, 0) := by decide +kernel
theorem q124_61 : am_look 124 61 = some (.iload 4, 63, 4, 0, 0) := by decide +kernel
theorem q124_63 : am_look 124 63 = some (.iconst 1, 64, 0, 0, 1) := by decide +kernel
theorem q124_64 : am_look 124 64 = some (.isub, 65, 0, 0, 0) := by decide +kernel
theorem q124_65 : am_look 124 65 = some (.invokevirtual 125, 68, 79, 3, 12) := by decide +kernel
theorem q124_68 : am_look 124 68 = some (.istore 7, 70, 7, 0, 0) := by decide +kernel
theorem q124_70 : am_look 124 70 = some (.aload_n 0, 71, 0, 0, 0) := by decide +kernel
theorem q124_71 : am_look 124 71 = some (.getfield 19, 74, 773, 5, 0) := by decide +kernel
theorem q124_74 : am_look 124 74 = some (.bipush 9, 76, 0, 0, 9) := by decide +kernel
theorem q124_76 : am_look 124 76 = some (.iload_n 3, 77, 3, 0, 0) := by decide +kernel
theorem q124_77 : am_look 124 77 = some (.imul, 78, 0, 0, 0) := by decide +kernel
theorem q124_78 : am_look 124 78 = some (.bipush 9, 80, 0, 0, 9) := by decide +kernel
theorem q124_80 : am_look 124 80 = some (.isub, 81, 0, 0, 0) := by decide +kernel
theorem q124_81 : am_look 124 81 = some (.iload 4, 83, 4, 0, 0) := by decide +kernel
theorem q124_83 : am_look 124 83 = some (.iadd, 84, 0, 0, 0) := by decide +kernel
theorem q124_84 : am_look 124 84 = some (.iconst 1, 85, 0, 0, 1) := by decide +kernel
theorem q124_85 : am_look 124 85 = some (.isub, 86, 0, 0, 0) := by decide +kernel
theorem q124_86 : am_look 124 86 = some (.iaload, 87, 0, 0, 0) := by decide +kernel
theorem q124_87 : am_look 124 87 = some (.iload 6, 89, 6, 0, 0) := by decide +kernel
theorem q124_89 : am_look 124 89 = some (.iload 7, 91, 7, 0, 0) := by decide +kernel
theorem q124_91 : am_look 124 91 = some (.if_icmp .ne 7, 94, 98, 0, 0) := by decide +kernel
theorem q124_94 : am_look 124 94 = some (.iconst 0, 95, 0, 0, 0) := by decide +kernel
theorem q124_95 : am_look 124 95 = some (.goto 19, 98, 114, 0, 0) := by decide +kernel
theorem q124_98 : am_look 124 98 = some (.iload 6, 100, 6, 0, 0) := by decide +kernel
theorem q124_100 : am_look 124 100 = some (.iconst 5, 101, 0, 0, 5) := by decide +kernel
theorem q124_101 : am_look 124 101 = some (.idiv, 102, 0, 0, 0) := by decide +kernel
theorem q124_102 : am_look 124 102 = some (.iload 7, 104, 7, 0, 0) := by decide +kernel
theorem q124_104 : am_look 124 104 = some (.iconst 5, 105, 0, 0, 5) := by decide +kernel
theorem q124_105 : am_look 124 105 = some (.idiv, 106, 0, 0, 0) := by decide +kernel
theorem q124_106 : am_look 124 106 = some (.if_icmp .ne 7, 109, 113, 0, 0) := by decide +kernel
theorem q124_109 : am_look 124 109 = some (.iconst 1, 110, 0, 0, 1) := by decide +kernel
theorem q124_110 : am_look 124 110 = some (.goto 4, 113, 114, 0, 0) := by decide +kernel
theorem q124_113 : am_look 124 113 = some (.iconst 3, 114, 0, 0, 3) := by decide +kernel
theorem q124_114 : am_look 124 114 = some (.iadd, 115, 0, 0, 0) := by decide +kernel
theorem q124_115 : am_look 124 115 = some (.istore 5, 117, 5, 0, 0) := by decide +kernel
theorem q124_117 : am_look 124 117 = some (.aload_n 0, 118, 0, 0, 0) := by decide +kernel
theorem q124_118 : am_look 124 118 = some (.getfield 19, 121, 773, 5, 0) := by decide +kernel
theorem q124_121 : am_look 124 121 = some (.bipush 9, 123, 0, 0, 9) := by decide +kernel
theorem q124_123 : am_look 124 123 = some (.iload_n 3, 124, 3, 0, 0) := by decide +kernel
theorem q124_124 : am_look 124 124 = some (.imul, 125, 0, 0, 0) := by decide +kernel
theorem q124_125 : am_look 124 125 = some (.bipush 9, 127, 0, 0, 9) := by decide +kernel
theorem q124_127 : am_look 124 127 = some (.isub, 128, 0, 0, 0) := by decide +kernel
theorem q124_128 : am_look 124 128 = some (.iload 4, 130, 4, 0, 0) := by decide +kernel
theorem q124_130 : am_look 124 130 = some (.iadd, 131, 0, 0, 0) := by decide +kernel
theorem q124_131 : am_look 124 131 = some (.iaload, 132, 0, 0, 0) := by decide +kernel
theorem q124_132 : am_look 124 132 = some (.iconst 2, 133, 0, 0, 2) := by decide +kernel
theorem q124_133 : am_look 124 133 = some (.iadd, 134, 0, 0, 0) := by decide +kernel
theorem q124_134 : am_look 124 134 = some (.iload 5, 136, 5, 0, 0) := by decide +kernel
theorem q124_136 : am_look 124 136 = some (.if_icmp .ge 23, 139, 159, 0, 0) := by decide +kernel
theorem q124_139 : am_look 124 139 = some (.aload_n 0, 140, 0, 0, 0) := by decide +kernel
theorem q124_140 : am_look 124 140 = some (.getfield 19, 143, 773, 5, 0) := by decide +kernel
theorem q124_143 : am_look 124 143 = some (.bipush 9, 145, 0, 0, 9) := by decide +kernel
theorem q124_145 : am_look 124 145 = some (.iload_n 3, 146, 3, 0, 0) := by decide +kernel
theorem q124_146 : am_look 124 146 = some (.imul, 147, 0, 0, 0) := by decide +kernel
theorem q124_147 : am_look 124 147 = some (.bipush 9, 149, 0, 0, 9) := by decide +kernel
theorem q124_149 : am_look 124 149 = some (.isub, 150, 0, 0, 0) := by decide +kernel
theorem q124_150 : am_look 124 150 = some (.iload 4, 152, 4, 0, 0) := by decide +kernel
theorem q124_152 : am_look 124 152 = some (.iadd, 153, 0, 0, 0) := by decide +kernel
theorem q124_153 : am_look 124 153 = some (.iaload, 154, 0, 0, 0) := by decide +kernel
theorem q124_154 : am_look 124 154 = some (.iconst 2, 155, 0, 0, 2) := by decide +kernel
theorem q124_155 : am_look 124 155 = some (.iadd, 156, 0, 0, 0) := by decide +kernel
theorem q124_156 : am_look 124 156 = some (.goto 5, 159, 161, 0, 0) := by decide +kernel
theorem q124_159 : am_look 124 159 = some (.iload 5, 161, 5, 0, 0) := by decide +kernel
theorem q124_161 : am_look 124 161 = some (.istore 5, 163, 5, 0, 0) := by decide +kernel
theorem q124_163 : am_look 124 163 = some (.aload_n 0, 164, 0, 0, 0) := by decide +kernel
theorem q124_164 : am_look 124 164 = some (.getfield 19, 167, 773, 5, 0) := by decide +kernel
theorem q124_167 : am_look 124 167 = some (.bipush 9, 169, 0, 0, 9) := by decide +kernel
theorem q124_169 : am_look 124 169 = some (.iload_n 3, 170, 3, 0, 0) := by decide +kernel
theorem q124_170 : am_look 124 170 = some (.imul, 171, 0, 0, 0) := by decide +kernel
theorem q124_171 : am_look 124 171 = some (.iload 4, 173, 4, 0, 0) := by decide +kernel
theorem q124_173 : am_look 124 173 = some (.iadd, 174, 0, 0, 0) := by decide +kernel
theorem q124_174 : am_look 124 174 = some (.iconst 1, 175, 0, 0, 1) := by decide +kernel
theorem q124_175 : am_look 124 175 = some (.isub, 176, 0, 0, 0) := by decide +kernel
theorem q124_176 : am_look 124 176 = some (.iaload, 177, 0, 0, 0) := by decide +kernel
theorem q124_177 : am_look 124 177 = some (.iconst 2, 178, 0, 0, 2) := by decide +kernel
theorem q124_178 : am_look 124 178 = some (.iadd, 179, 0, 0, 0) := by decide +kernel
theorem q124_179 : am_look 124 179 = some (.iload 5, 181, 5, 0, 0) := by decide +kernel
theorem q124_181 : am_look 124 181 = some (.if_icmp .ge 22, 184, 203, 0, 0) := by decide +kernel
theorem q124_184 : am_look 124 184 = some (.aload_n 0, 185, 0, 0, 0) := by decide +kernel
theorem q124_185 : am_look 124 185 = some (.getfield 19, 188, 773, 5, 0) := by decide +kernel
theorem q124_188 : am_look 124 188 = some (.bipush 9, 190, 0, 0, 9) := by decide +kernel
theorem q124_190 : am_look 124 190 = some (.iload_n 3, 191, 3, 0, 0) := by decide +kernel
theorem q124_191 : am_look 124 191 = some (.imul, 192, 0, 0, 0) := by decide +kernel
theorem q124_192 : am_look 124 192 = some (.iload 4, 194, 4, 0, 0) := by decide +kernel
theorem q124_194 : am_look 124 194 = some (.iadd, 195, 0, 0, 0) := by decide +kernel
theorem q124_195 : am_look 124 195 = some (.iconst 1, 196, 0, 0, 1) := by decide +kernel
theorem q124_196 : am_look 124 196 = some (.isub, 197, 0, 0, 0) := by decide +kernel
theorem q124_197 : am_look 124 197 = some (.iaload, 198, 0, 0, 0) := by decide +kernel
theorem q124_198 : am_look 124 198 = some (.iconst 2, 199, 0, 0, 2) := by decide +kernel
theorem q124_199 : am_look 124 199 = some (.iadd, 200, 0, 0, 0) := by decide +kernel
theorem q124_200 : am_look 124 200 = some (.goto 5, 203, 205, 0, 0) := by decide +kernel
theorem q124_203 : am_look 124 203 = some (.iload 5, 205, 5, 0, 0) := by decide +kernel
theorem q124_205 : am_look 124 205 = some (.istore 5, 207, 5, 0, 0) := by decide +kernel
theorem q124_207 : am_look 124 207 = some (.aload_n 0, 208, 0, 0, 0) := by decide +kernel
theorem q124_208 : am_look 124 208 = some (.getfield 19, 211, 773, 5, 0) := by decide +kernel
theorem q124_211 : am_look 124 211 = some (.bipush 9, 213, 0, 0, 9) := by decide +kernel
theorem q124_213 : am_look 124 213 = some (.iload_n 3, 214, 3, 0, 0) := by decide +kernel
theorem q124_214 : am_look 124 214 = some (.imul, 215, 0, 0, 0) := by decide +kernel
theorem q124_215 : am_look 124 215 = some (.iload 4, 217, 4, 0, 0) := by decide +kernel
theorem q124_217 : am_look 124 217 = some (.iadd, 218, 0, 0, 0) := by decide +kernel
theorem q124_218 : am_look 124 218 = some (.iload 5, 220, 5, 0, 0) := by decide +kernel
theorem q124_220 : am_look 124 220 = some (.iastore, 221, 0, 0, 0) := by decide +kernel
theorem q124_221 : am_look 124 221 = some (.iinc 4 1, 224, 4, 0, 1) := by decide +kernel
theorem q124_224 : am_look 124 224 = some (.goto (-210), 227, 14, 0, 0) := by decide +kernel
theorem q124_227 : am_look 124 227 = some (.iinc 3 1, 230, 3, 0, 1) := by decide +kernel
theorem q124_230 : am_look 124 230 = some (.goto (-228), 233, 2, 0, 0) := by decide +kernel
theorem q124_233 : am_look 124 233 = some (.aload_n 0, 234, 0, 0, 0) := by decide +kernel
theorem q124_234 : am_look 124 234 = some (.getfield 19, 237, 773, 5, 0) := by decide +kernel
theorem q124_237 : am_look 124 237 = some (.bipush 9, 239, 0, 0, 9) := by decide +kernel
theorem q124_239 : am_look 124 239 = some (.aload_n 0, 240, 0, 0, 0) := by decide +kernel
theorem q124_240 : am_look 124 240 = some (.iload_n 1, 241, 1, 0, 0) := by decide +kernel
theorem q124_241 : am_look 124 241 = some (.invokevirtual 122, 244, 80, 2, 12) := by decide +kernel
theorem q124_244 : am_look 124 244 = some (.imul, 245, 0, 0, 0) := by decide +kernel
theorem q124_245 : am_look 124 245 = some (.aload_n 0, 246, 0, 0, 0) := by decide +kernel
theorem q124_246 : am_look 124 246 = some (.iload_n 2, 247, 2, 0, 0) := by decide +kernel
theorem q124_247 : am_look 124 247 = some (.invokevirtual 122, 250, 80, 2, 12) := by decide +kernel
theorem q124_250 : am_look 124 250 = some (.iadd, 251, 0, 0, 0) := by decide +kernel
theorem q124_251 : am_look 124 251 = some (.iaload, 252, 0, 0, 0) := by decide +kernel
theorem q124_252 : am_look 124 252 = some (.ireturn, 253, 0, 0, 0) := by decide +kernel
theorem zb124 : am_zb 124 = false := by decide +kernel
theorem ml124 : am_ml 124 = 8 := by decide +kernel
theorem np124 : am_np 124 + (if am_sc 124 then 0 else 1) = 3 := by decide +kernel
theorem st124 {d : Nat} {h h1 : am_H} {r : Option am_V} (p0 : Nat) (a1 : Int) (a2 : Int) (H : am_x (am_cd d) 124 (fun r2 h2 => r2 = r ∧ h2 = h1) 0 0 [some (.inr (.inr p0)), some (.inl a1), some (.inl a2), none, none, none, none, none] [] h) : am_cd (d + 1) 124 [.inr (.inr p0), .inl a1, .inl a2] h r h1 := by
  refine ⟨⟨by rw [ml124]; simp [am_en], by rw [np124]; rfl⟩, ?_⟩
  rw [ml124]; exact H
theorem q125_0 : am_look 125 0 = some (.iload_n 1, 1, 1, 0, 0) := by decide +kernel
theorem q125_1 : am_look 125 1 = some (.iconst 0, 2, 0, 0, 0) := by decide +kernel
theorem q125_2 : am_look 125 2 = some (.aload_n 0, 3, 0, 0, 0) := by decide +kernel
theorem q125_3 : am_look 125 3 = some (.getfield 7, 6, 768, 0, 0) := by decide +kernel
theorem q125_6 : am_look 125 6 = some (.iconst 3, 7, 0, 0, 3) := by decide +kernel
theorem q125_7 : am_look 125 7 = some (.iaload, 8, 0, 0, 0) := by decide +kernel
theorem q125_8 : am_look 125 8 = some (.iconst 1, 9, 0, 0, 1) := by decide +kernel
theorem q125_9 : am_look 125 9 = some (.isub, 10, 0, 0, 0) := by decide +kernel
theorem q125_10 : am_look 125 10 = some (.invokestatic 83, 13, 73, 3, 99) := by decide +kernel
theorem q125_13 : am_look 125 13 = some (.ifCond .ne 10, 16, 23, 0, 0) := by decide +kernel
theorem q125_16 : am_look 125 16 = some (.aload_n 0, 17, 0, 0, 0) := by decide +kernel
theorem q125_17 : am_look 125 17 = some (.ldc 95, 19, 0, 0, (-100001)) := by decide +kernel
theorem q125_19 : am_look 125 19 = some (.invokevirtual 91, 22, 74, 2, 12) := by decide +kernel
theorem q125_22 : am_look 125 22 = some (.ireturn, 23, 0, 0, 0) := by decide +kernel
theorem q125_23 : am_look 125 23 = some (.aload_n 0, 24, 0, 0, 0) := by decide +kernel
theorem q125_24 : am_look 125 24 = some (.getfield 7, 27, 768, 0, 0) := by decide +kernel
theorem q125_27 : am_look 125 27 = some (.sipush 520, 30, 0, 0, 520) := by decide +kernel
theorem q125_30 : am_look 125 30 = some (.iconst 5, 31, 0, 0, 5) := by decide +kernel
theorem q125_31 : am_look 125 31 = some (.iload_n 1, 32, 1, 0, 0) := by decide +kernel
theorem q125_32 : am_look 125 32 = some (.imul, 33, 0, 0, 0) := by decide +kernel
theorem q125_33 : am_look 125 33 = some (.iadd, 34, 0, 0, 0) := by decide +kernel
theorem q125_34 : am_look 125 34 = some (.iconst 4, 35, 0, 0, 4) := by decide +kernel
theorem q125_35 : am_look 125 35 = some (.iadd, 36, 0, 0, 0) := by decide +kernel
theorem q125_36 : am_look 125 36 = some (.iaload, 37, 0, 0, 0) := by decide +kernel
theorem q125_37 : am_look 125 37 = some (.ifCond .lt 10, 40, 47, 0, 0) := by decide +kernel
theorem q125_40 : am_look 125 40 = some (.aload_n 0, 41, 0, 0, 0) := by decide +kernel
theorem q125_41 : am_look 125 41 = some (.ldc 137, 43, 0, 0, (-100007)) := by decide +kernel
theorem q125_43 : am_look 125 43 = some (.invokevirtual 91, 46, 74, 2, 12) := by decide +kernel
theorem q125_46 : am_look 125 46 = some (.ireturn, 47, 0, 0, 0) := by decide +kernel
theorem q125_47 : am_look 125 47 = some (.aload_n 0, 48, 0, 0, 0) := by decide +kernel
theorem q125_48 : am_look 125 48 = some (.invokevirtual 97, 51, 77, 1, 12) := by decide +kernel
theorem q125_51 : am_look 125 51 = some (.aload_n 0, 52, 0, 0, 0) := by decide +kernel
theorem q125_52 : am_look 125 52 = some (.getfield 7, 55, 768, 0, 0) := by decide +kernel
theorem q125_55 : am_look 125 55 = some (.sipush 520, 58, 0, 0, 520) := by decide +kernel
theorem q125_58 : am_look 125 58 = some (.iconst 5, 59, 0, 0, 5) := by decide +kernel
theorem q125_59 : am_look 125 59 = some (.iload_n 1, 60, 1, 0, 0) := by decide +kernel
theorem q125_60 : am_look 125 60 = some (.imul, 61, 0, 0, 0) := by decide +kernel
theorem q125_61 : am_look 125 61 = some (.iadd, 62, 0, 0, 0) := by decide +kernel
theorem q125_62 : am_look 125 62 = some (.iconst 4, 63, 0, 0, 4) := by decide +kernel
theorem q125_63 : am_look 125 63 = some (.iadd, 64, 0, 0, 0) := by decide +kernel
theorem q125_64 : am_look 125 64 = some (.aload_n 0, 65, 0, 0, 0) := by decide +kernel
theorem q125_65 : am_look 125 65 = some (.getfield 7, 68, 768, 0, 0) := by decide +kernel
theorem q125_68 : am_look 125 68 = some (.iconst 4, 69, 0, 0, 4) := by decide +kernel
theorem q125_69 : am_look 125 69 = some (.iaload, 70, 0, 0, 0) := by decide +kernel
theorem q125_70 : am_look 125 70 = some (.iastore, 71, 0, 0, 0) := by decide +kernel
theorem q125_71 : am_look 125 71 = some (.iconst 1, 72, 0, 0, 1) := by decide +kernel
theorem q125_72 : am_look 125 72 = some (.ireturn, 73, 0, 0, 0) := by decide +kernel
theorem zb125 : am_zb 125 = false := by decide +kernel
theorem ml125 : am_ml 125 = 2 := by decide +kernel
theorem np125 : am_np 125 + (if am_sc 125 then 0 else 1) = 2 := by decide +kernel
theorem st125 {d : Nat} {h h1 : am_H} {r : Option am_V} (p0 : Nat) (a1 : Int) (H : am_x (am_cd d) 125 (fun r2 h2 => r2 = r ∧ h2 = h1) 0 0 [some (.inr (.inr p0)), some (.inl a1)] [] h) : am_cd (d + 1) 125 [.inr (.inr p0), .inl a1] h r h1 := by
  refine ⟨⟨by rw [ml125]; simp [am_en], by rw [np125]; rfl⟩, ?_⟩
  rw [ml125]; exact H
theorem q126_0 : am_look 126 0 = some (.iload_n 1, 1, 1, 0, 0) := by decide +kernel
theorem q126_1 : am_look 126 1 = some (.iconst 0, 2, 0, 0, 0) := by decide +kernel
theorem q126_2 : am_look 126 2 = some (.aload_n 0, 3, 0, 0, 0) := by decide +kernel
theorem q126_3 : am_look 126 3 = some (.getfield 7, 6, 768, 0, 0) := by decide +kernel
theorem q126_6 : am_look 126 6 = some (.iconst 3, 7, 0, 0, 3) := by decide +kernel
theorem q126_7 : am_look 126 7 = some (.iaload, 8, 0, 0, 0) := by decide +kernel
theorem q126_8 : am_look 126 8 = some (.iconst 1, 9, 0, 0, 1) := by decide +kernel
theorem q126_9 : am_look 126 9 = some (.isub, 10, 0, 0, 0) := by decide +kernel
theorem q126_10 : am_look 126 10 = some (.invokestatic 83, 13, 73, 3, 99) := by decide +kernel
theorem q126_13 : am_look 126 13 = some (.ifCond .eq 29, 16, 42, 0, 0) := by decide +kernel
theorem q126_16 : am_look 126 16 = some (.iload_n 2, 17, 2, 0, 0) := by decide +kernel
theorem q126_17 : am_look 126 17 = some (.iconst 0, 18, 0, 0, 0) := by decide +kernel
theorem q126_18 : am_look 126 18 = some (.iconst 4, 19, 0, 0, 4) := by decide +kernel
theorem q126_19 : am_look 126 19 = some (.invokestatic 83, 22, 73, 3, 99) := by decide +kernel
theorem q126_22 : am_look 126 22 = some (.ifCond .eq 20, 25, 42, 0, 0) := by decide +kernel
theorem q126_25 : am_look 126 25 = some (.aload_n 0, 26, 0, 0, 0) := by decide +kernel
theorem q126_26 : am_look 126 26 = some (.getfield 7, 29, 768, 0, 0) := by decide +kernel
theorem q126_29 : am_look 126 29 = some (.sipush 520, 32, 0, 0, 520) := by decide +kernel
theorem q126_32 : am_look 126 32 = some (.iconst 5, 33, 0, 0, 5) := by decide +kernel
theorem q126_33 : am_look 126 33 = some (.iload_n 1, 34, 1, 0, 0) := by decide +kernel
theorem q126_34 : am_look 126 34 = some (.imul, 35, 0, 0, 0) := by decide +kernel
theorem q126_35 : am_look 126 35 = some (.iadd, 36, 0, 0, 0) := by decide +kernel
theorem q126_36 : am_look 126 36 = some (.iload_n 2, 37, 2, 0, 0) := by decide +kernel
theorem q126_37 : am_look 126 37 = some (.iadd, 38, 0, 0, 0) := by decide +kernel
theorem q126_38 : am_look 126 38 = some (.iaload, 39, 0, 0, 0) := by decide +kernel
theorem q126_39 : am_look 126 39 = some (.goto 9, 42, 48, 0, 0) := by decide +kernel
theorem q126_42 : am_look 126 42 = some (.aload_n 0, 43, 0, 0, 0) := by decide +kernel
theorem q126_43 : am_look 126 43 = some (.ldc 95, 45, 0, 0, (-100001)) := by decide +kernel
theorem q126_45 : am_look 126 45 = some (.invokevirtual 91, 48, 74, 2, 12) := by decide +kernel
theorem q126_48 : am_look 126 48 = some (.ireturn, 49, 0, 0, 0) := by decide +kernel
theorem zb126 : am_zb 126 = false := by decide +kernel
theorem ml126 : am_ml 126 = 3 := by decide +kernel
theorem np126 : am_np 126 + (if am_sc 126 then 0 else 1) = 3 := by decide +kernel
theorem st126 {d : Nat} {h h1 : am_H} {r : Option am_V} (p0 : Nat) (a1 : Int) (a2 : Int) (H : am_x (am_cd d) 126 (fun r2 h2 => r2 = r ∧ h2 = h1) 0 0 [some (.inr (.inr p0)), some (.inl a1), some (.inl a2)] [] h) : am_cd (d + 1) 126 [.inr (.inr p0), .inl a1, .inl a2] h r h1 := by
  refine ⟨⟨by rw [ml126]; simp [am_en], by rw [np126]; rfl⟩, ?_⟩
  rw [ml126]; exact H
theorem q127_0 : am_look 127 0 = some (.iconst 0, 1, 0, 0, 0) := by decide +kernel
theorem q127_1 : am_look 127 1 = some (.istore 4, 3, 4, 0, 0) := by decide +kernel
theorem q127_3 : am_look 127 3 = some (.iconst 0, 4, 0, 0, 0) := by decide +kernel
theorem q127_4 : am_look 127 4 = some (.istore 5, 6, 5, 0, 0) := by decide +kernel
theorem q127_6 : am_look 127 6 = some (.iload 5, 8, 5, 0, 0) := by decide +kernel
theorem q127_8 : am_look 127 8 = some (.aload_n 0, 9, 0, 0, 0) := by decide +kernel
theorem q127_9 : am_look 127 9 = some (.getfield 7, 12, 768, 0, 0) := by decide +kernel
theorem q127_12 : am_look 127 12 = some (.iconst 1, 13, 0, 0, 1) := by decide +kernel
theorem q127_13 : am_look 127 13 = some (.iaload, 14, 0, 0, 0) := by decide +kernel
theorem q127_14 : am_look 127 14 = some (.if_icmp .ge 57, 17, 71, 0, 0) := by decide +kernel
theorem q127_17 : am_look 127 17 = some (.iload 4, 19, 4, 0, 0) := by decide +kernel
theorem q127_19 : am_look 127 19 = some (.aload_n 0, 20, 0, 0, 0) := by decide +kernel
theorem q127_20 : am_look 127 20 = some (.getfield 7, 23, 768, 0, 0) := by decide +kernel
theorem q127_23 : am_look 127 23 = some (.sipush 190, 26, 0, 0, 190) := by decide +kernel
theorem q127_26 : am_look 127 26 = some (.iconst 3, 27, 0, 0, 3) := by decide +kernel
theorem q127_27 : am_look 127 27 = some (.iload 5, 29, 5, 0, 0) := by decide +kernel
theorem q127_29 : am_look 127 29 = some (.imul, 30, 0, 0, 0) := by decide +kernel
theorem q127_30 : am_look 127 30 = some (.iadd, 31, 0, 0, 0) := by decide +kernel
theorem q127_31 : am_look 127 31 = some (.iaload, 32, 0, 0, 0) := by decide +kernel
theorem q127_32 : am_look 127 32 = some (.iload_n 1, 33, 1, 0, 0) := by decide +kernel
theorem q127_33 : am_look 127 33 = some (.if_icmp .ne 28, 36, 61, 0, 0) := by decide +kernel
theorem q127_36 : am_look 127 36 = some (.aload_n 0, 37, 0, 0, 0) := by decide +kernel
theorem q127_37 : am_look 127 37 = some (.getfield 22, 40, 774, 6, 0) := by decide +kernel
theorem q127_40 : am_look 127 40 = some (.bipush 6, 42, 0, 0, 6) := by decide +kernel
theorem q127_42 : am_look 127 42 = some (.iload 5, 44, 5, 0, 0) := by decide +kernel
theorem q127_44 : am_look 127 44 = some (.imul, 45, 0, 0, 0) := by decide +kernel
theorem q127_45 : am_look 127 45 = some (.iload_n 2, 46, 2, 0, 0) := by decide +kernel
theorem q127_46 : am_look 127 46 = some (.iadd, 47, 0, 0, 0) := by decide +kernel
theorem q127_47 : am_look 127 47 = some (.iaload, 48, 0, 0, 0) := by decide +kernel
theorem q127_48 : am_look 127 48 = some (.iload_n 3, 49, 3, 0, 0) := by decide +kernel
theorem q127_49 : am_look 127 49 = some (.if_icmp .ne 12, 52, 61, 0, 0) := by decide +kernel
theorem q127_52 : am_look 127 52 = some (.aload_n 0, 53, 0, 0, 0) := by decide +kernel
theorem q127_53 : am_look 127 53 = some (.iload 5, 55, 5, 0, 0) := by decide +kernel
theorem q127_55 : am_look 127 55 = some (.invokevirtual 114, 58, 78, 2, 12) := by decide +kernel
theorem q127_58 : am_look 127 58 = some (.goto 4, 61, 62, 0, 0) := by decide +kernel
theorem q127_61 : am_look 127 61 = some (.iconst 0, 62, 0, 0, 0) := by decide +kernel
theorem q127_62 : am_look 127 62 = some (.iadd, 63, 0, 0, 0) := by decide +kernel
theorem q127_63 : am_look 127 63 = some (.istore 4, 65, 4, 0, 0) := by decide +kernel
theorem q127_65 : am_look 127 65 = some (.iinc 5 1, 68, 5, 0, 1) := by decide +kernel
theorem q127_68 : am_look 127 68 = some (.goto (-62), 71, 6, 0, 0) := by decide +kernel
theorem q127_71 : am_look 127 71 = some (.iload 4, 73, 4, 0, 0) := by decide +kernel
theorem q127_73 : am_look 127 73 = some (.ireturn, 74, 0, 0, 0) := by decide +kernel
theorem zb127 : am_zb 127 = false := by decide +kernel
theorem ml127 : am_ml 127 = 6 := by decide +kernel
theorem np127 : am_np 127 + (if am_sc 127 then 0 else 1) = 4 := by decide +kernel
theorem st127 {d : Nat} {h h1 : am_H} {r : Option am_V} (p0 : Nat) (a1 : Int) (a2 : Int) (a3 : Int) (H : am_x (am_cd d) 127 (fun r2 h2 => r2 = r ∧ h2 = h1) 0 0 [some (.inr (.inr p0)), some (.inl a1), some (.inl a2), some (.inl a3), none, none] [] h) : am_cd (d + 1) 127 [.inr (.inr p0), .inl a1, .inl a2, .inl a3] h r h1 := by
  refine ⟨⟨by rw [ml127]; simp [am_en], by rw [np127]; rfl⟩, ?_⟩
  rw [ml127]; exact H
theorem q128_0 : am_look 128 0 = some (.iload_n 1, 1, 1, 0, 0) := by decide +kernel
theorem q128_1 : am_look 128 1 = some (.iconst 1, 2, 0, 0, 1) := by decide +kernel
theorem q128_2 : am_look 128 2 = some (.bipush 8, 4, 0, 0, 8) := by decide +kernel
theorem q128_4 : am_look 128 4 = some (.invokestatic 83, 7, 73, 3, 99) := by decide +kernel
theorem q128_7 : am_look 128 7 = some (.ifCond .ne 10, 10, 17, 0, 0) := by decide +kernel
theorem q128_10 : am_look 128 10 = some (.aload_n 0, 11, 0, 0, 0) := by decide +kernel
theorem q128_11 : am_look 128 11 = some (.ldc 95, 13, 0, 0, (-100001)) := by decide +kernel
theorem q128_13 : am_look 128 13 = some (.invokevirtual 91, 16, 74, 2, 12) := by decide +kernel
theorem q128_16 : am_look 128 16 = some (.ireturn, 17, 0, 0, 0) := by decide +kernel
theorem q128_17 : am_look 128 17 = some (.aload_n 0, 18, 0, 0, 0) := by decide +kernel
theorem q128_18 : am_look 128 18 = some (.getfield 148, 21, 782, 14, 0) := by decide +kernel
theorem q128_21 : am_look 128 21 = some (.iload_n 1, 22, 1, 0, 0) := by decide +kernel
theorem q128_22 : am_look 128 22 = some (.iadd, 23, 0, 0, 0) := by decide +kernel
theorem q128_23 : am_look 128 23 = some (.bipush 80, 25, 0, 0, 80) := by decide +kernel
theorem q128_25 : am_look 128 25 = some (.if_icmp .le 10, 28, 35, 0, 0) := by decide +kernel
theorem q128_28 : am_look 128 28 = some (.aload_n 0, 29, 0, 0, 0) := by decide +kernel
theorem q128_29 : am_look 128 29 = some (.ldc 96, 31, 0, 0, (-100005)) := by decide +kernel
theorem q128_31 : am_look 128 31 = some (.invokevirtual 91, 34, 74, 2, 12) := by decide +kernel
theorem q128_34 : am_look 128 34 = some (.ireturn, 35, 0, 0, 0) := by decide +kernel
theorem q128_35 : am_look 128 35 = some (.iconst 0, 36, 0, 0, 0) := by decide +kernel
theorem q128_36 : am_look 128 36 = some (.istore 4, 38, 4, 0, 0) := by decide +kernel
theorem q128_38 : am_look 128 38 = some (.iload 4, 40, 4, 0, 0) := by decide +kernel
theorem q128_40 : am_look 128 40 = some (.iload_n 1, 41, 1, 0, 0) := by decide +kernel
theorem q128_41 : am_look 128 41 = some (.if_icmp .ge 40, 44, 81, 0, 0) := by decide +kernel
theorem q128_44 : am_look 128 44 = some (.aload_n 0, 45, 0, 0, 0) := by decide +kernel
theorem q128_45 : am_look 128 45 = some (.getfield 28, 48, 776, 8, 0) := by decide +kernel
theorem q128_48 : am_look 128 48 = some (.aload_n 0, 49, 0, 0, 0) := by decide +kernel
theorem q128_49 : am_look 128 49 = some (.getfield 148, 52, 782, 14, 0) := by decide +kernel
theorem q128_52 : am_look 128 52 = some (.lload_n 2, 53, 2, 0, 0) := by decide +kernel
theorem q128_53 : am_look 128 53 = some (.bipush 8, 55, 0, 0, 8) := by decide +kernel
theorem q128_55 : am_look 128 55 = some (.iload 4, 57, 4, 0, 0) := by decide +kernel
theorem q128_57 : am_look 128 57 = some (.imul, 58, 0, 0, 0) := by decide +kernel
theorem q128_58 : am_look 128 58 = some (.lshr, 59, 0, 0, 0) := by decide +kernel
theorem q128_59 : am_look 128 59 = some (.ldc2_w 118, 62, 0, 0, 255) := by decide +kernel
theorem q128_62 : am_look 128 62 = some (.land, 63, 0, 0, 0) := by decide +kernel
theorem q128_63 : am_look 128 63 = some (.l2i, 64, 0, 0, 0) := by decide +kernel
theorem q128_64 : am_look 128 64 = some (.iastore, 65, 0, 0, 0) := by decide +kernel
theorem q128_65 : am_look 128 65 = some (.aload_n 0, 66, 0, 0, 0) := by decide +kernel
theorem q128_66 : am_look 128 66 = some (.dup, 67, 0, 0, 0) := by decide +kernel
theorem q128_67 : am_look 128 67 = some (.getfield 148, 70, 782, 14, 0) := by decide +kernel
theorem q128_70 : am_look 128 70 = some (.iconst 1, 71, 0, 0, 1) := by decide +kernel
theorem q128_71 : am_look 128 71 = some (.iadd, 72, 0, 0, 0) := by decide +kernel
theorem q128_72 : am_look 128 72 = some (.putfield 148, 75, 782, 14, 0) := by decide +kernel
theorem q128_75 : am_look 128 75 = some (.iinc 4 1, 78, 4, 0, 1) := by decide +kernel
theorem q128_78 : am_look 128 78 = some (.goto (-40), 81, 38, 0, 0) := by decide +kernel
theorem q128_81 : am_look 128 81 = some (.aload_n 0, 82, 0, 0, 0) := by decide +kernel
theorem q128_82 : am_look 128 82 = some (.getfield 148, 85, 782, 14, 0) := by decide +kernel
theorem q128_85 : am_look 128 85 = some (.ireturn, 86, 0, 0, 0) := by decide +kernel
theorem zb128 : am_zb 128 = false := by decide +kernel
theorem ml128 : am_ml 128 = 5 := by decide +kernel
theorem np128 : am_np 128 + (if am_sc 128 then 0 else 1) = 3 := by decide +kernel
theorem st128 {d : Nat} {h h1 : am_H} {r : Option am_V} (p0 : Nat) (a1 : Int) (a2 : Int64) (H : am_x (am_cd d) 128 (fun r2 h2 => r2 = r ∧ h2 = h1) 0 0 [some (.inr (.inr p0)), some (.inl a1), some (.inr (.inl a2)), none, none] [] h) : am_cd (d + 1) 128 [.inr (.inr p0), .inl a1, .inr (.inl a2)] h r h1 := by
  refine ⟨⟨by rw [ml128]; simp [am_en], by rw [np128]; rfl⟩, ?_⟩
  rw [ml128]; exact H
theorem q129_0 : am_look 129 0 = some (.aload_n 0, 1, 0, 0, 0) := by decide +kernel
theorem q129_1 : am_look 129 1 = some (.getfield 151, 4, 783, 15, 0) := by decide +kernel
theorem q129_4 : am_look 129 4 = some (.aload_n 0, 5, 0, 0, 0) := by decide +kernel
theorem q129_5 : am_look 129 5 = some (.getfield 148, 8, 782, 14, 0) := by decide +kernel
theorem q129_8 : am_look 129 8 = some (.if_icmp .ge 15, 11, 23, 0, 0) := by decide +kernel
theorem q129_11 : am_look 129 11 = some (.aload_n 0, 12, 0, 0, 0) := by decide +kernel
theorem q129_12 : am_look 129 12 = some (.getfield 28, 15, 776, 8, 0) := by decide +kernel
theorem q129_15 : am_look 129 15 = some (.aload_n 0, 16, 0, 0, 0) := by decide +kernel
theorem q129_16 : am_look 129 16 = some (.getfield 151, 19, 783, 15, 0) := by decide +kernel
theorem q129_19 : am_look 129 19 = some (.iaload, 20, 0, 0, 0) := by decide +kernel
theorem q129_20 : am_look 129 20 = some (.goto 4, 23, 24, 0, 0) := by decide +kernel
theorem q129_23 : am_look 129 23 = some (.iconst (-1), 24, 0, 0, (-1)) := by decide +kernel
theorem q129_24 : am_look 129 24 = some (.istore_n 2, 25, 2, 0, 0) := by decide +kernel
theorem q129_25 : am_look 129 25 = some (.iload_n 2, 26, 2, 0, 0) := by decide +kernel
theorem q129_26 : am_look 129 26 = some (.bipush 97, 28, 0, 0, 97) := by decide +kernel
theorem q129_28 : am_look 129 28 = some (.bipush 122, 30, 0, 0, 122) := by decide +kernel
theorem q129_30 : am_look 129 30 = some (.invokestatic 83, 33, 73, 3, 99) := by decide +kernel
theorem q129_33 : am_look 129 33 = some (.ifCond .eq 10, 36, 43, 0, 0) := by decide +kernel
theorem q129_36 : am_look 129 36 = some (.iload_n 2, 37, 2, 0, 0) := by decide +kernel
theorem q129_37 : am_look 129 37 = some (.bipush 97, 39, 0, 0, 97) := by decide +kernel
theorem q129_39 : am_look 129 39 = some (.isub, 40, 0, 0, 0) := by decide +kernel
theorem q129_40 : am_look 129 40 = some (.goto 49, 43, 89, 0, 0) := by decide +kernel
theorem q129_43 : am_look 129 43 = some (.iload_n 1, 44, 1, 0, 0) := by decide +kernel
theorem q129_44 : am_look 129 44 = some (.ifCond .ne 13, 47, 57, 0, 0) := by decide +kernel
theorem q129_47 : am_look 129 47 = some (.iload_n 2, 48, 2, 0, 0) := by decide +kernel
theorem q129_48 : am_look 129 48 = some (.bipush 48, 50, 0, 0, 48) := by decide +kernel
theorem q129_50 : am_look 129 50 = some (.if_icmp .ne 7, 53, 57, 0, 0) := by decide +kernel
theorem q129_53 : am_look 129 53 = some (.iconst (-1), 54, 0, 0, (-1)) := by decide +kernel
theorem q129_54 : am_look 129 54 = some (.goto 35, 57, 89, 0, 0) := by decide +kernel
theorem q129_57 : am_look 129 57 = some (.iload_n 1, 58, 1, 0, 0) := by decide +kernel
theorem q129_58 : am_look 129 58 = some (.ifCond .eq 14, 61, 72, 0, 0) := by decide +kernel
theorem q129_61 : am_look 129 61 = some (.iload_n 2, 62, 2, 0, 0) := by decide +kernel
theorem q129_62 : am_look 129 62 = some (.bipush 35, 64, 0, 0, 35) := by decide +kernel
theorem q129_64 : am_look 129 64 = some (.if_icmp .ne 8, 67, 72, 0, 0) := by decide +kernel
theorem q129_67 : am_look 129 67 = some (.bipush 26, 69, 0, 0, 26) := by decide +kernel
theorem q129_69 : am_look 129 69 = some (.goto 20, 72, 89, 0, 0) := by decide +kernel
theorem q129_72 : am_look 129 72 = some (.iload_n 1, 73, 1, 0, 0) := by decide +kernel
theorem q129_73 : am_look 129 73 = some (.ifCond .eq 14, 76, 87, 0, 0) := by decide +kernel
theorem q129_76 : am_look 129 76 = some (.iload_n 2, 77, 2, 0, 0) := by decide +kernel
theorem q129_77 : am_look 129 77 = some (.bipush 42, 79, 0, 0, 42) := by decide +kernel
theorem q129_79 : am_look 129 79 = some (.if_icmp .ne 8, 82, 87, 0, 0) := by decide +kernel
theorem q129_82 : am_look 129 82 = some (.bipush 27, 84, 0, 0, 27) := by decide +kernel
theorem q129_84 : am_look 129 84 = some (.goto 5, 87, 89, 0, 0) := by decide +kernel
theorem q129_87 : am_look 129 87 = some (.bipush (-2), 89, 0, 0, (-2)) := by decide +kernel
theorem q129_89 : am_look 129 89 = some (.istore_n 3, 90, 3, 0, 0) := by decide +kernel
theorem q129_90 : am_look 129 90 = some (.aload_n 0, 91, 0, 0, 0) := by decide +kernel
theorem q129_91 : am_look 129 91 = some (.dup, 92, 0, 0, 0) := by decide +kernel
theorem q129_92 : am_look 129 92 = some (.getfield 151, 95, 783, 15, 0) := by decide +kernel
theorem q129_95 : am_look 129 95 = some (.iload_n 3, 96, 3, 0, 0) := by decide +kernel
theorem q129_96 : am_look 129 96 = some (.bipush (-2), 98, 0, 0, (-2)) := by decide +kernel
theorem q129_98 : am_look 129 98 = some (.if_icmp .ne 7, 101, 105, 0, 0) := by decide +kernel
theorem q129_101 : am_look 129 101 = some (.iconst 0, 102, 0, 0, 0) := by decide +kernel
theorem q129_102 : am_look 129 102 = some (.goto 4, 105, 106, 0, 0) := by decide +kernel
theorem q129_105 : am_look 129 105 = some (.iconst 1, 106, 0, 0, 1) := by decide +kernel
theorem q129_106 : am_look 129 106 = some (.iadd, 107, 0, 0, 0) := by decide +kernel
theorem q129_107 : am_look 129 107 = some (.putfield 151, 110, 783, 15, 0) := by decide +kernel
theorem q129_110 : am_look 129 110 = some (.iload_n 3, 111, 3, 0, 0) := by decide +kernel
theorem q129_111 : am_look 129 111 = some (.ireturn, 112, 0, 0, 0) := by decide +kernel
theorem zb129 : am_zb 129 = false := by decide +kernel
theorem ml129 : am_ml 129 = 4 := by decide +kernel
theorem np129 : am_np 129 + (if am_sc 129 then 0 else 1) = 2 := by decide +kernel
theorem st129 {d : Nat} {h h1 : am_H} {r : Option am_V} (p0 : Nat) (a1 : Int) (H : am_x (am_cd d) 129 (fun r2 h2 => r2 = r ∧ h2 = h1) 0 0 [some (.inr (.inr p0)), some (.inl a1), none, none] [] h) : am_cd (d + 1) 129 [.inr (.inr p0), .inl a1] h r h1 := by
  refine ⟨⟨by rw [ml129]; simp [am_en], by rw [np129]; rfl⟩, ?_⟩
  rw [ml129]; exact H
theorem q130_0 : am_look 130 0 = some (.iload_n 1, 1, 1, 0, 0) := by decide +kernel
theorem q130_1 : am_look 130 1 = some (.iconst 0, 2, 0, 0, 0) := by decide +kernel
theorem q130_2 : am_look 130 2 = some (.iconst 3, 3, 0, 0, 3) := by decide +kernel
theorem q130_3 : am_look 130 3 = some (.invokestatic 83, 6, 73, 3, 99) := by decide +kernel
theorem q130_6 : am_look 130 6 = some (.ifCond .eq 12, 9, 18, 0, 0) := by decide +kernel
theorem q130_9 : am_look 130 9 = some (.aload_n 0, 10, 0, 0, 0) := by decide +kernel
theorem q130_10 : am_look 130 10 = some (.getfield 31, 13, 777, 9, 0) := by decide +kernel
theorem q130_13 : am_look 130 13 = some (.iload_n 1, 14, 1, 0, 0) := by decide +kernel
theorem q130_14 : am_look 130 14 = some (.iaload, 15, 0, 0, 0) := by decide +kernel
theorem q130_15 : am_look 130 15 = some (.goto 9, 18, 24, 0, 0) := by decide +kernel
theorem q130_18 : am_look 130 18 = some (.aload_n 0, 19, 0, 0, 0) := by decide +kernel
theorem q130_19 : am_look 130 19 = some (.ldc 95, 21, 0, 0, (-100001)) := by decide +kernel
theorem q130_21 : am_look 130 21 = some (.invokevirtual 91, 24, 74, 2, 12) := by decide +kernel
theorem q130_24 : am_look 130 24 = some (.ireturn, 25, 0, 0, 0) := by decide +kernel
theorem zb130 : am_zb 130 = false := by decide +kernel
theorem ml130 : am_ml 130 = 2 := by decide +kernel
theorem np130 : am_np 130 + (if am_sc 130 then 0 else 1) = 2 := by decide +kernel
theorem st130 {d : Nat} {h h1 : am_H} {r : Option am_V} (p0 : Nat) (a1 : Int) (H : am_x (am_cd d) 130 (fun r2 h2 => r2 = r ∧ h2 = h1) 0 0 [some (.inr (.inr p0)), some (.inl a1)] [] h) : am_cd (d + 1) 130 [.inr (.inr p0), .inl a1] h r h1 := by
  refine ⟨⟨by rw [ml130]; simp [am_en], by rw [np130]; rfl⟩, ?_⟩
  rw [ml130]; exact H
theorem q131_0 : am_look 131 0 = some (.iload_n 1, 1, 1, 0, 0) := by decide +kernel
theorem q131_1 : am_look 131 1 = some (.bipush 27, 3, 0, 0, 27) := by decide +kernel
theorem q131_3 : am_look 131 3 = some (.if_icmp .eq 36, 6, 39, 0, 0) := by decide +kernel
theorem q131_6 : am_look 131 6 = some (.iload_n 2, 7, 2, 0, 0) := by decide +kernel
theorem q131_7 : am_look 131 7 = some (.iconst 0, 8, 0, 0, 0) := by decide +kernel
theorem q131_8 : am_look 131 8 = some (.aload_n 0, 9, 0, 0, 0) := by decide +kernel
theorem q131_9 : am_look 131 9 = some (.getfield 164, 12, 784, 16, 0) := by decide +kernel
theorem q131_12 : am_look 131 12 = some (.iconst 1, 13, 0, 0, 1) := by decide +kernel
theorem q131_13 : am_look 131 13 = some (.isub, 14, 0, 0, 0) := by decide +kernel
theorem q131_14 : am_look 131 14 = some (.invokestatic 83, 17, 73, 3, 99) := by decide +kernel
theorem q131_17 : am_look 131 17 = some (.ifCond .eq 16, 20, 33, 0, 0) := by decide +kernel
theorem q131_20 : am_look 131 20 = some (.aload_n 0, 21, 0, 0, 0) := by decide +kernel
theorem q131_21 : am_look 131 21 = some (.getfield 40, 24, 780, 12, 0) := by decide +kernel
theorem q131_24 : am_look 131 24 = some (.iload_n 2, 25, 2, 0, 0) := by decide +kernel
theorem q131_25 : am_look 131 25 = some (.iaload, 26, 0, 0, 0) := by decide +kernel
theorem q131_26 : am_look 131 26 = some (.iload_n 1, 27, 1, 0, 0) := by decide +kernel
theorem q131_27 : am_look 131 27 = some (.if_icmp .ne 16, 30, 43, 0, 0) := by decide +kernel
theorem q131_30 : am_look 131 30 = some (.goto 9, 33, 39, 0, 0) := by decide +kernel
theorem q131_33 : am_look 131 33 = some (.iload_n 1, 34, 1, 0, 0) := by decide +kernel
theorem q131_34 : am_look 131 34 = some (.bipush 26, 36, 0, 0, 26) := by decide +kernel
theorem q131_36 : am_look 131 36 = some (.if_icmp .ne 7, 39, 43, 0, 0) := by decide +kernel
theorem q131_39 : am_look 131 39 = some (.iconst 1, 40, 0, 0, 1) := by decide +kernel
theorem q131_40 : am_look 131 40 = some (.goto 4, 43, 44, 0, 0) := by decide +kernel
theorem q131_43 : am_look 131 43 = some (.iconst 0, 44, 0, 0, 0) := by decide +kernel
theorem q131_44 : am_look 131 44 = some (.ireturn, 45, 0, 0, 0) := by decide +kernel
theorem zb131 : am_zb 131 = true := by decide +kernel
theorem ml131 : am_ml 131 = 3 := by decide +kernel
theorem np131 : am_np 131 + (if am_sc 131 then 0 else 1) = 3 := by decide +kernel
theorem st131 {d : Nat} {h h1 : am_H} {r : Option am_V} (p0 : Nat) (a1 : Int) (a2 : Int) (H : am_x (am_cd d) 131 (fun r2 h2 => r2 = r ∧ h2 = h1) 0 0 [some (.inr (.inr p0)), some (.inl a1), some (.inl a2)] [] h) : am_cd (d + 1) 131 [.inr (.inr p0), .inl a1, .inl a2] h r h1 := by
  refine ⟨⟨by rw [ml131]; simp [am_en], by rw [np131]; rfl⟩, ?_⟩
  rw [ml131]; exact H
theorem q132_0 : am_look 132 0 = some (.iload_n 1, 1, 1, 0, 0) := by decide +kernel
theorem q132_1 : am_look 132 1 = some (.ifCond .lt 19, 4, 20, 0, 0) := by decide +kernel
theorem q132_4 : am_look 132 4 = some (.aload_n 0, 5, 0, 0, 0) := by decide +kernel
theorem q132_5 : am_look 132 5 = some (.iload_n 1, 6, 1, 0, 0) := by decide +kernel
theorem q132_6 : am_look 132 6 = some (.invokevirtual 122, 9, 80, 2, 12) := by decide +kernel
theorem q132_9 : am_look 132 9 = some (.aload_n 0, 10, 0, 0, 0) := by decide +kernel
theorem q132_10 : am_look 132 10 = some (.getfield 164, 13, 784, 16, 0) := by decide +kernel
theorem q132_13 : am_look 132 13 = some (.if_icmp .ne 7, 16, 20, 0, 0) := by decide +kernel
theorem q132_16 : am_look 132 16 = some (.iconst 1, 17, 0, 0, 1) := by decide +kernel
theorem q132_17 : am_look 132 17 = some (.goto 4, 20, 21, 0, 0) := by decide +kernel
theorem q132_20 : am_look 132 20 = some (.iconst 0, 21, 0, 0, 0) := by decide +kernel
theorem q132_21 : am_look 132 21 = some (.istore_n 2, 22, 2, 0, 0) := by decide +kernel
theorem q132_22 : am_look 132 22 = some (.iconst 0, 23, 0, 0, 0) := by decide +kernel
theorem q132_23 : am_look 132 23 = some (.istore_n 3, 24, 3, 0, 0) := by decide +kernel
theorem q132_24 : am_look 132 24 = some (.iload_n 3, 25, 3, 0, 0) := by decide +kernel
theorem q132_25 : am_look 132 25 = some (.aload_n 0, 26, 0, 0, 0) := by decide +kernel
theorem q132_26 : am_look 132 26 = some (.getfield 164, 29, 784, 16, 0) := by decide +kernel
theorem q132_29 : am_look 132 29 = some (.if_icmp .ge 34, 32, 63, 0, 0) := by decide +kernel
theorem q132_32 : am_look 132 32 = some (.iload_n 2, 33, 2, 0, 0) := by decide +kernel
theorem q132_33 : am_look 132 33 = some (.ifCond .eq 30, 36, 63, 0, 0) := by decide +kernel
theorem q132_36 : am_look 132 36 = some (.aload_n 0, 37, 0, 0, 0) := by decide +kernel
theorem q132_37 : am_look 132 37 = some (.iload_n 1, 38, 1, 0, 0) := by decide +kernel
theorem q132_38 : am_look 132 38 = some (.iload_n 3, 39, 3, 0, 0) := by decide +kernel
theorem q132_39 : am_look 132 39 = some (.invokevirtual 125, 42, 79, 3, 12) := by decide +kernel
theorem q132_42 : am_look 132 42 = some (.aload_n 0, 43, 0, 0, 0) := by decide +kernel
theorem q132_43 : am_look 132 43 = some (.getfield 40, 46, 780, 12, 0) := by decide +kernel
theorem q132_46 : am_look 132 46 = some (.iload_n 3, 47, 3, 0, 0) := by decide +kernel
theorem q132_47 : am_look 132 47 = some (.iaload, 48, 0, 0, 0) := by decide +kernel
theorem q132_48 : am_look 132 48 = some (.if_icmp .ne 7, 51, 55, 0, 0) := by decide +kernel
theorem q132_51 : am_look 132 51 = some (.iconst 1, 52, 0, 0, 1) := by decide +kernel
theorem q132_52 : am_look 132 52 = some (.goto 4, 55, 56, 0, 0) := by decide +kernel
theorem q132_55 : am_look 132 55 = some (.iconst 0, 56, 0, 0, 0) := by decide +kernel
theorem q132_56 : am_look 132 56 = some (.istore_n 2, 57, 2, 0, 0) := by decide +kernel
theorem q132_57 : am_look 132 57 = some (.iinc 3 1, 60, 3, 0, 1) := by decide +kernel
theorem q132_60 : am_look 132 60 = some (.goto (-36), 63, 24, 0, 0) := by decide +kernel
theorem q132_63 : am_look 132 63 = some (.iload_n 2, 64, 2, 0, 0) := by decide +kernel
theorem q132_64 : am_look 132 64 = some (.ireturn, 65, 0, 0, 0) := by decide +kernel
theorem zb132 : am_zb 132 = true := by decide +kernel
theorem ml132 : am_ml 132 = 4 := by decide +kernel
theorem np132 : am_np 132 + (if am_sc 132 then 0 else 1) = 2 := by decide +kernel
theorem st132 {d : Nat} {h h1 : am_H} {r : Option am_V} (p0 : Nat) (a1 : Int) (H : am_x (am_cd d) 132 (fun r2 h2 => r2 = r ∧ h2 = h1) 0 0 [some (.inr (.inr p0)), some (.inl a1), none, none] [] h) : am_cd (d + 1) 132 [.inr (.inr p0), .inl a1] h r h1 := by
  refine ⟨⟨by rw [ml132]; simp [am_en], by rw [np132]; rfl⟩, ?_⟩
  rw [ml132]; exact H
theorem q133_0 : am_look 133 0 = some (.iconst 0, 1, 0, 0, 0) := by decide +kernel
theorem q133_1 : am_look 133 1 = some (.istore 7, 3, 7, 0, 0) := by decide +kernel
theorem q133_3 : am_look 133 3 = some (.iconst 0, 4, 0, 0, 0) := by decide +kernel
theorem q133_4 : am_look 133 4 = some (.istore 8, 6, 8, 0, 0) := by decide +kernel
theorem q133_6 : am_look 133 6 = some (.iload 8, 8, 8, 0, 0) := by decide +kernel
theorem q133_8 : am_look 133 8 = some (.aload_n 0, 9, 0, 0, 0) := by decide +kernel
theorem q133_9 : am_look 133 9 = some (.getfield 7, 12, 768, 0, 0) := by decide +kernel
theorem q133_12 : am_look 133 12 = some (.iconst 0, 13, 0, 0, 0) := by decide +kernel
theorem q133_13 : am_look 133 13 = some (.iaload, 14, 0, 0, 0) := by decide +kernel
theorem q133_14 : am_look 133 14 = some (.if_icmp .ge 98, 17, 112, 0, 0) := by decide +kernel
theorem q133_17 : am_look 133 17 = some (.aload_n 0, 18, 0, 0, 0) := by decide +kernel
theorem q133_18 : am_look 133 18 = some (.getfield 25, 21, 775, 7, 0) := by decide +kernel
theorem q133_21 : am_look 133 21 = some (.bipush 6, 23, 0, 0, 6) := by decide +kernel
theorem q133_23 : am_look 133 23 = some (.iload 8, 25, 8, 0, 0) := by decide +kernel
theorem q133_25 : am_look 133 25 = some (.imul, 26, 0, 0, 0) := by decide +kernel
theorem q133_26 : am_look 133 26 = some (.iload_n 1, 27, 1, 0, 0) := by decide +kernel
theorem q133_27 : am_look 133 27 = some (.iadd, 28, 0, 0, 0) := by decide +kernel
theorem q133_28 : am_look 133 28 = some (.iaload, 29, 0, 0, 0) := by decide +kernel
theorem q133_29 : am_look 133 29 = some (.istore 9, 31, 9, 0, 0) := by decide +kernel
theorem q133_31 : am_look 133 31 = some (.iload 4, 33, 4, 0, 0) := by decide +kernel
theorem q133_33 : am_look 133 33 = some (.aload_n 0, 34, 0, 0, 0) := by decide +kernel
theorem q133_34 : am_look 133 34 = some (.getfield 7, 37, 768, 0, 0) := by decide +kernel
theorem q133_37 : am_look 133 37 = some (.bipush 10, 39, 0, 0, 10) := by decide +kernel
theorem q133_39 : am_look 133 39 = some (.iconst 3, 40, 0, 0, 3) := by decide +kernel
theorem q133_40 : am_look 133 40 = some (.iload 8, 42, 8, 0, 0) := by decide +kernel
theorem q133_42 : am_look 133 42 = some (.imul, 43, 0, 0, 0) := by decide +kernel
theorem q133_43 : am_look 133 43 = some (.iadd, 44, 0, 0, 0) := by decide +kernel
theorem q133_44 : am_look 133 44 = some (.iaload, 45, 0, 0, 0) := by decide +kernel
theorem q133_45 : am_look 133 45 = some (.aload_n 0, 46, 0, 0, 0) := by decide +kernel
theorem q133_46 : am_look 133 46 = some (.getfield 7, 49, 768, 0, 0) := by decide +kernel
theorem q133_49 : am_look 133 49 = some (.bipush 10, 51, 0, 0, 10) := by decide +kernel
theorem q133_51 : am_look 133 51 = some (.iconst 3, 52, 0, 0, 3) := by decide +kernel
theorem q133_52 : am_look 133 52 = some (.iload 8, 54, 8, 0, 0) := by decide +kernel
theorem q133_54 : am_look 133 54 = some (.imul, 55, 0, 0, 0) := by decide +kernel
theorem q133_55 : am_look 133 55 = some (.iadd, 56, 0, 0, 0) := by decide +kernel
theorem q133_56 : am_look 133 56 = some (.iconst 1, 57, 0, 0, 1) := by decide +kernel
theorem q133_57 : am_look 133 57 = some (.iadd, 58, 0, 0, 0) := by decide +kernel
theorem q133_58 : am_look 133 58 = some (.iaload, 59, 0, 0, 0) := by decide +kernel
theorem q133_59 : am_look 133 59 = some (.invokestatic 179, 62, 82, 3, 99) := by decide +kernel
theorem q133_62 : am_look 133 62 = some (.iload 5, 64, 5, 0, 0) := by decide +kernel
theorem q133_64 : am_look 133 64 = some (.if_icmp .ge 7, 67, 71, 0, 0) := by decide +kernel
theorem q133_67 : am_look 133 67 = some (.iconst 0, 68, 0, 0, 0) := by decide +kernel
theorem q133_68 : am_look 133 68 = some (.goto 4, 71, 72, 0, 0) := by decide +kernel
theorem q133_71 : am_look 133 71 = some (.iconst 1, 72, 0, 0, 1) := by decide +kernel
theorem q133_72 : am_look 133 72 = some (.istore 10, 74, 10, 0, 0) := by decide +kernel
theorem q133_74 : am_look 133 74 = some (.iload 7, 76, 7, 0, 0) := by decide +kernel
theorem q133_76 : am_look 133 76 = some (.iload 9, 78, 9, 0, 0) := by decide +kernel
theorem q133_78 : am_look 133 78 = some (.iload 10, 80, 10, 0, 0) := by decide +kernel
theorem q133_80 : am_look 133 80 = some (.iload 6, 82, 6, 0, 0) := by decide +kernel
theorem q133_82 : am_look 133 82 = some (.if_icmp .ne 7, 85, 89, 0, 0) := by decide +kernel
theorem q133_85 : am_look 133 85 = some (.iload_n 3, 86, 3, 0, 0) := by decide +kernel
theorem q133_86 : am_look 133 86 = some (.goto 4, 89, 90, 0, 0) := by decide +kernel
theorem q133_89 : am_look 133 89 = some (.iload_n 2, 90, 2, 0, 0) := by decide +kernel
theorem q133_90 : am_look 133 90 = some (.if_icmp .ne 12, 93, 102, 0, 0) := by decide +kernel
theorem q133_93 : am_look 133 93 = some (.aload_n 0, 94, 0, 0, 0) := by decide +kernel
theorem q133_94 : am_look 133 94 = some (.iload 8, 96, 8, 0, 0) := by decide +kernel
theorem q133_96 : am_look 133 96 = some (.invokevirtual 182, 99, 75, 2, 12) := by decide +kernel
theorem q133_99 : am_look 133 99 = some (.goto 4, 102, 103, 0, 0) := by decide +kernel
theorem q133_102 : am_look 133 102 = some (.iconst 0, 103, 0, 0, 0) := by decide +kernel
theorem q133_103 : am_look 133 103 = some (.iadd, 104, 0, 0, 0) := by decide +kernel
theorem q133_104 : am_look 133 104 = some (.istore 7, 106, 7, 0, 0) := by decide +kernel
theorem q133_106 : am_look 133 106 = some (.iinc 8 1, 109, 8, 0, 1) := by decide +kernel
theorem q133_109 : am_look 133 109 = some (.goto (-103), 112, 6, 0, 0) := by decide +kernel
theorem q133_112 : am_look 133 112 = some (.iload 7, 114, 7, 0, 0) := by decide +kernel
theorem q133_114 : am_look 133 114 = some (.ireturn, 115, 0, 0, 0) := by decide +kernel
theorem zb133 : am_zb 133 = false := by decide +kernel
theorem ml133 : am_ml 133 = 11 := by decide +kernel
theorem np133 : am_np 133 + (if am_sc 133 then 0 else 1) = 7 := by decide +kernel
theorem st133 {d : Nat} {h h1 : am_H} {r : Option am_V} (p0 : Nat) (a1 : Int) (a2 : Int) (a3 : Int) (a4 : Int) (a5 : Int) (a6 : Int) (H : am_x (am_cd d) 133 (fun r2 h2 => r2 = r ∧ h2 = h1) 0 0 [some (.inr (.inr p0)), some (.inl a1), some (.inl a2), some (.inl a3), some (.inl a4), some (.inl a5), some (.inl a6), none, none, none, none] [] h) : am_cd (d + 1) 133 [.inr (.inr p0), .inl a1, .inl a2, .inl a3, .inl a4, .inl a5, .inl a6] h r h1 := by
  refine ⟨⟨by rw [ml133]; simp [am_en], by rw [np133]; rfl⟩, ?_⟩
  rw [ml133]; exact H
theorem q134_0 : am_look 134 0 = some (.iload_n 1, 1, 1, 0, 0) := by decide +kernel
theorem q134_1 : am_look 134 1 = some (.istore_n 2, 2, 2, 0, 0) := by decide +kernel
theorem q134_2 : am_look 134 2 = some (.iconst 0, 3, 0, 0, 0) := by decide +kernel
theorem q134_3 : am_look 134 3 = some (.istore_n 3, 4, 3, 0, 0) := by decide +kernel
theorem q134_4 : am_look 134 4 = some (.iload_n 3, 5, 3, 0, 0) := by decide +kernel
theorem q134_5 : am_look 134 5 = some (.aload_n 0, 6, 0, 0, 0) := by decide +kernel
theorem q134_6 : am_look 134 6 = some (.getfield 7, 9, 768, 0, 0) := by decide +kernel
theorem q134_9 : am_look 134 9 = some (.iconst 0, 10, 0, 0, 0) := by decide +kernel
theorem q134_10 : am_look 134 10 = some (.iaload, 11, 0, 0, 0) := by decide +kernel
theorem q134_11 : am_look 134 11 = some (.if_icmp .ge 132, 14, 143, 0, 0) := by decide +kernel
theorem q134_14 : am_look 134 14 = some (.iload_n 1, 15, 1, 0, 0) := by decide +kernel
theorem q134_15 : am_look 134 15 = some (.iload_n 3, 16, 3, 0, 0) := by decide +kernel
theorem q134_16 : am_look 134 16 = some (.ishr, 17, 0, 0, 0) := by decide +kernel
theorem q134_17 : am_look 134 17 = some (.iconst 1, 18, 0, 0, 1) := by decide +kernel
theorem q134_18 : am_look 134 18 = some (.iand, 19, 0, 0, 0) := by decide +kernel
theorem q134_19 : am_look 134 19 = some (.iconst 1, 20, 0, 0, 1) := by decide +kernel
theorem q134_20 : am_look 134 20 = some (.if_icmp .ne 6, 23, 26, 0, 0) := by decide +kernel
theorem q134_23 : am_look 134 23 = some (.goto 114, 26, 137, 0, 0) := by decide +kernel
theorem q134_26 : am_look 134 26 = some (.iconst 0, 27, 0, 0, 0) := by decide +kernel
theorem q134_27 : am_look 134 27 = some (.istore 4, 29, 4, 0, 0) := by decide +kernel
theorem q134_29 : am_look 134 29 = some (.iconst 0, 30, 0, 0, 0) := by decide +kernel
theorem q134_30 : am_look 134 30 = some (.istore 5, 32, 5, 0, 0) := by decide +kernel
theorem q134_32 : am_look 134 32 = some (.iconst 0, 33, 0, 0, 0) := by decide +kernel
theorem q134_33 : am_look 134 33 = some (.istore 6, 35, 6, 0, 0) := by decide +kernel
theorem q134_35 : am_look 134 35 = some (.iload 6, 37, 6, 0, 0) := by decide +kernel
theorem q134_37 : am_look 134 37 = some (.aload_n 0, 38, 0, 0, 0) := by decide +kernel
theorem q134_38 : am_look 134 38 = some (.getfield 7, 41, 768, 0, 0) := by decide +kernel
theorem q134_41 : am_look 134 41 = some (.iconst 0, 42, 0, 0, 0) := by decide +kernel
theorem q134_42 : am_look 134 42 = some (.iaload, 43, 0, 0, 0) := by decide +kernel
theorem q134_43 : am_look 134 43 = some (.if_icmp .ge 72, 46, 115, 0, 0) := by decide +kernel
theorem q134_46 : am_look 134 46 = some (.aload_n 0, 47, 0, 0, 0) := by decide +kernel
theorem q134_47 : am_look 134 47 = some (.iload_n 3, 48, 3, 0, 0) := by decide +kernel
theorem q134_48 : am_look 134 48 = some (.iload 6, 50, 6, 0, 0) := by decide +kernel
theorem q134_50 : am_look 134 50 = some (.invokevirtual 105, 53, 76, 3, 12) := by decide +kernel
theorem q134_53 : am_look 134 53 = some (.ifCond .ne 6, 56, 59, 0, 0) := by decide +kernel
theorem q134_56 : am_look 134 56 = some (.goto 53, 59, 109, 0, 0) := by decide +kernel
theorem q134_59 : am_look 134 59 = some (.iload 4, 61, 4, 0, 0) := by decide +kernel
theorem q134_61 : am_look 134 61 = some (.iload_n 1, 62, 1, 0, 0) := by decide +kernel
theorem q134_62 : am_look 134 62 = some (.iload 6, 64, 6, 0, 0) := by decide +kernel
theorem q134_64 : am_look 134 64 = some (.ishr, 65, 0, 0, 0) := by decide +kernel
theorem q134_65 : am_look 134 65 = some (.iconst 1, 66, 0, 0, 1) := by decide +kernel
theorem q134_66 : am_look 134 66 = some (.iand, 67, 0, 0, 0) := by decide +kernel
theorem q134_67 : am_look 134 67 = some (.iconst 1, 68, 0, 0, 1) := by decide +kernel
theorem q134_68 : am_look 134 68 = some (.if_icmp .ne 12, 71, 80, 0, 0) := by decide +kernel
theorem q134_71 : am_look 134 71 = some (.aload_n 0, 72, 0, 0, 0) := by decide +kernel
theorem q134_72 : am_look 134 72 = some (.iload 6, 74, 6, 0, 0) := by decide +kernel
theorem q134_74 : am_look 134 74 = some (.invokevirtual 182, 77, 75, 2, 12) := by decide +kernel
theorem q134_77 : am_look 134 77 = some (.goto 4, 80, 81, 0, 0) := by decide +kernel
theorem q134_80 : am_look 134 80 = some (.iconst 0, 81, 0, 0, 0) := by decide +kernel
theorem q134_81 : am_look 134 81 = some (.iadd, 82, 0, 0, 0) := by decide +kernel
theorem q134_82 : am_look 134 82 = some (.istore 4, 84, 4, 0, 0) := by decide +kernel
theorem q134_84 : am_look 134 84 = some (.iload 5, 86, 5, 0, 0) := by decide +kernel
theorem q134_86 : am_look 134 86 = some (.iload_n 1, 87, 1, 0, 0) := by decide +kernel
theorem q134_87 : am_look 134 87 = some (.iload 6, 89, 6, 0, 0) := by decide +kernel
theorem q134_89 : am_look 134 89 = some (.ishr, 90, 0, 0, 0) := by decide +kernel
theorem q134_90 : am_look 134 90 = some (.iconst 1, 91, 0, 0, 1) := by decide +kernel
theorem q134_91 : am_look 134 91 = some (.iand, 92, 0, 0, 0) := by decide +kernel
theorem q134_92 : am_look 134 92 = some (.iconst 1, 93, 0, 0, 1) := by decide +kernel
theorem q134_93 : am_look 134 93 = some (.if_icmp .ne 7, 96, 100, 0, 0) := by decide +kernel
theorem q134_96 : am_look 134 96 = some (.iconst 0, 97, 0, 0, 0) := by decide +kernel
theorem q134_97 : am_look 134 97 = some (.goto 9, 100, 106, 0, 0) := by decide +kernel
theorem q134_100 : am_look 134 100 = some (.aload_n 0, 101, 0, 0, 0) := by decide +kernel
theorem q134_101 : am_look 134 101 = some (.iload 6, 103, 6, 0, 0) := by decide +kernel
theorem q134_103 : am_look 134 103 = some (.invokevirtual 182, 106, 75, 2, 12) := by decide +kernel
theorem q134_106 : am_look 134 106 = some (.iadd, 107, 0, 0, 0) := by decide +kernel
theorem q134_107 : am_look 134 107 = some (.istore 5, 109, 5, 0, 0) := by decide +kernel
theorem q134_109 : am_look 134 109 = some (.iinc 6 1, 112, 6, 0, 1) := by decide +kernel
theorem q134_112 : am_look 134 112 = some (.goto (-77), 115, 35, 0, 0) := by decide +kernel
theorem q134_115 : am_look 134 115 = some (.iload_n 2, 116, 2, 0, 0) := by decide +kernel
theorem q134_116 : am_look 134 116 = some (.iload 4, 118, 4, 0, 0) := by decide +kernel
theorem q134_118 : am_look 134 118 = some (.ifCond .le 16, 121, 134, 0, 0) := by decide +kernel
theorem q134_121 : am_look 134 121 = some (.iload 4, 123, 4, 0, 0) := by decide +kernel
theorem q134_123 : am_look 134 123 = some (.iload 5, 125, 5, 0, 0) := by decide +kernel
theorem q134_125 : am_look 134 125 = some (.if_icmp .lt 9, 128, 134, 0, 0) := by decide +kernel
theorem q134_128 : am_look 134 128 = some (.iconst 1, 129, 0, 0, 1) := by decide +kernel
theorem q134_129 : am_look 134 129 = some (.iload_n 3, 130, 3, 0, 0) := by decide +kernel
theorem q134_130 : am_look 134 130 = some (.ishl, 131, 0, 0, 0) := by decide +kernel
theorem q134_131 : am_look 134 131 = some (.goto 4, 134, 135, 0, 0) := by decide +kernel
theorem q134_134 : am_look 134 134 = some (.iconst 0, 135, 0, 0, 0) := by decide +kernel
theorem q134_135 : am_look 134 135 = some (.ior, 136, 0, 0, 0) := by decide +kernel
theorem q134_136 : am_look 134 136 = some (.istore_n 2, 137, 2, 0, 0) := by decide +kernel
theorem q134_137 : am_look 134 137 = some (.iinc 3 1, 140, 3, 0, 1) := by decide +kernel
theorem q134_140 : am_look 134 140 = some (.goto (-136), 143, 4, 0, 0) := by decide +kernel
theorem q134_143 : am_look 134 143 = some (.iload_n 2, 144, 2, 0, 0) := by decide +kernel
theorem q134_144 : am_look 134 144 = some (.ireturn, 145, 0, 0, 0) := by decide +kernel
theorem zb134 : am_zb 134 = false := by decide +kernel
theorem ml134 : am_ml 134 = 7 := by decide +kernel
theorem np134 : am_np 134 + (if am_sc 134 then 0 else 1) = 2 := by decide +kernel
theorem st134 {d : Nat} {h h1 : am_H} {r : Option am_V} (p0 : Nat) (a1 : Int) (H : am_x (am_cd d) 134 (fun r2 h2 => r2 = r ∧ h2 = h1) 0 0 [some (.inr (.inr p0)), some (.inl a1), none, none, none, none, none] [] h) : am_cd (d + 1) 134 [.inr (.inr p0), .inl a1] h r h1 := by
  refine ⟨⟨by rw [ml134]; simp [am_en], by rw [np134]; rfl⟩, ?_⟩
  rw [ml134]; exact H
theorem q135_0 : am_look 135 0 = some (.iload_n 0, 1, 0, 0, 0) := by decide +kernel
theorem q135_1 : am_look 135 1 = some (.iconst 0, 2, 0, 0, 0) := by decide +kernel
theorem q135_2 : am_look 135 2 = some (.iconst 3, 3, 0, 0, 3) := by decide +kernel
theorem q135_3 : am_look 135 3 = some (.invokestatic 83, 6, 73, 3, 99) := by decide +kernel
theorem q135_6 : am_look 135 6 = some (.ireturn, 7, 0, 0, 0) := by decide +kernel
theorem zb135 : am_zb 135 = true := by decide +kernel
theorem ml135 : am_ml 135 = 1 := by decide +kernel
theorem np135 : am_np 135 + (if am_sc 135 then 0 else 1) = 1 := by decide +kernel
theorem st135 {d : Nat} {h h1 : am_H} {r : Option am_V} (a1 : Int) (H : am_x (am_cd d) 135 (fun r2 h2 => r2 = r ∧ h2 = h1) 0 0 [some (.inl a1)] [] h) : am_cd (d + 1) 135 [.inl a1] h r h1 := by
  refine ⟨⟨by rw [ml135]; simp [am_en], by rw [np135]; rfl⟩, ?_⟩
  rw [ml135]; exact H
theorem q136_0 : am_look 136 0 = some (.iconst 0, 1, 0, 0, 0) := by decide +kernel
theorem q136_1 : am_look 136 1 = some (.istore_n 2, 2, 2, 0, 0) := by decide +kernel
theorem q136_2 : am_look 136 2 = some (.iload_n 1, 3, 1, 0, 0) := by decide +kernel
theorem q136_3 : am_look 136 3 = some (.tableswitch 215 0 8 #[49, 56, 109, 116, 123, 130, 175, 182, 210], 52, 0, 0, 0) := by decide +kernel
theorem q136_52 : am_look 136 52 = some (.aload_n 0, 53, 0, 0, 0) := by decide +kernel
theorem q136_53 : am_look 136 53 = some (.getfield 7, 56, 768, 0, 0) := by decide +kernel
theorem q136_56 : am_look 136 56 = some (.iconst 0, 57, 0, 0, 0) := by decide +kernel
theorem q136_57 : am_look 136 57 = some (.iaload, 58, 0, 0, 0) := by decide +kernel
theorem q136_58 : am_look 136 58 = some (.ireturn, 59, 0, 0, 0) := by decide +kernel
theorem q136_59 : am_look 136 59 = some (.iconst 0, 60, 0, 0, 0) := by decide +kernel
theorem q136_60 : am_look 136 60 = some (.istore_n 3, 61, 3, 0, 0) := by decide +kernel
theorem q136_61 : am_look 136 61 = some (.iload_n 3, 62, 3, 0, 0) := by decide +kernel
theorem q136_62 : am_look 136 62 = some (.aload_n 0, 63, 0, 0, 0) := by decide +kernel
theorem q136_63 : am_look 136 63 = some (.getfield 7, 66, 768, 0, 0) := by decide +kernel
theorem q136_66 : am_look 136 66 = some (.iconst 0, 67, 0, 0, 0) := by decide +kernel
theorem q136_67 : am_look 136 67 = some (.iaload, 68, 0, 0, 0) := by decide +kernel
theorem q136_68 : am_look 136 68 = some (.if_icmp .ge 42, 71, 110, 0, 0) := by decide +kernel
theorem q136_71 : am_look 136 71 = some (.iconst 0, 72, 0, 0, 0) := by decide +kernel
theorem q136_72 : am_look 136 72 = some (.istore 4, 74, 4, 0, 0) := by decide +kernel
theorem q136_74 : am_look 136 74 = some (.iload 4, 76, 4, 0, 0) := by decide +kernel
theorem q136_76 : am_look 136 76 = some (.iload_n 3, 77, 3, 0, 0) := by decide +kernel
theorem q136_77 : am_look 136 77 = some (.if_icmp .ge 27, 80, 104, 0, 0) := by decide +kernel
theorem q136_80 : am_look 136 80 = some (.iload_n 2, 81, 2, 0, 0) := by decide +kernel
theorem q136_81 : am_look 136 81 = some (.aload_n 0, 82, 0, 0, 0) := by decide +kernel
theorem q136_82 : am_look 136 82 = some (.iload_n 3, 83, 3, 0, 0) := by decide +kernel
theorem q136_83 : am_look 136 83 = some (.iload 4, 85, 4, 0, 0) := by decide +kernel
theorem q136_85 : am_look 136 85 = some (.invokevirtual 105, 88, 76, 3, 12) := by decide +kernel
theorem q136_88 : am_look 136 88 = some (.ifCond .le 7, 91, 95, 0, 0) := by decide +kernel
theorem q136_91 : am_look 136 91 = some (.iconst 1, 92, 0, 0, 1) := by decide +kernel
theorem q136_92 : am_look 136 92 = some (.goto 4, 95, 96, 0, 0) := by decide +kernel
theorem q136_95 : am_look 136 95 = some (.iconst 0, 96, 0, 0, 0) := by decide +kernel
theorem q136_96 : am_look 136 96 = some (.iadd, 97, 0, 0, 0) := by decide +kernel
theorem q136_97 : am_look 136 97 = some (.istore_n 2, 98, 2, 0, 0) := by decide +kernel
theorem q136_98 : am_look 136 98 = some (.iinc 4 1, 101, 4, 0, 1) := by decide +kernel
theorem q136_101 : am_look 136 101 = some (.goto (-27), 104, 74, 0, 0) := by decide +kernel
theorem q136_104 : am_look 136 104 = some (.iinc 3 1, 107, 3, 0, 1) := by decide +kernel
theorem q136_107 : am_look 136 107 = some (.goto (-46), 110, 61, 0, 0) := by decide +kernel
theorem q136_110 : am_look 136 110 = some (.iload_n 2, 111, 2, 0, 0) := by decide +kernel
theorem q136_111 : am_look 136 111 = some (.ireturn, 112, 0, 0, 0) := by decide +kernel
theorem q136_112 : am_look 136 112 = some (.aload_n 0, 113, 0, 0, 0) := by decide +kernel
theorem q136_113 : am_look 136 113 = some (.getfield 7, 116, 768, 0, 0) := by decide +kernel
theorem q136_116 : am_look 136 116 = some (.iconst 1, 117, 0, 0, 1) := by decide +kernel
theorem q136_117 : am_look 136 117 = some (.iaload, 118, 0, 0, 0) := by decide +kernel
theorem q136_118 : am_look 136 118 = some (.ireturn, 119, 0, 0, 0) := by decide +kernel
theorem q136_119 : am_look 136 119 = some (.aload_n 0, 120, 0, 0, 0) := by decide +kernel
theorem q136_120 : am_look 136 120 = some (.getfield 7, 123, 768, 0, 0) := by decide +kernel
theorem q136_123 : am_look 136 123 = some (.iconst 2, 124, 0, 0, 2) := by decide +kernel
theorem q136_124 : am_look 136 124 = some (.iaload, 125, 0, 0, 0) := by decide +kernel
theorem q136_125 : am_look 136 125 = some (.ireturn, 126, 0, 0, 0) := by decide +kernel
theorem q136_126 : am_look 136 126 = some (.aload_n 0, 127, 0, 0, 0) := by decide +kernel
theorem q136_127 : am_look 136 127 = some (.getfield 7, 130, 768, 0, 0) := by decide +kernel
theorem q136_130 : am_look 136 130 = some (.iconst 3, 131, 0, 0, 3) := by decide +kernel
theorem q136_131 : am_look 136 131 = some (.iaload, 132, 0, 0, 0) := by decide +kernel
theorem q136_132 : am_look 136 132 = some (.ireturn, 133, 0, 0, 0) := by decide +kernel
theorem q136_133 : am_look 136 133 = some (.iconst 0, 134, 0, 0, 0) := by decide +kernel
theorem q136_134 : am_look 136 134 = some (.istore_n 3, 135, 3, 0, 0) := by decide +kernel
theorem q136_135 : am_look 136 135 = some (.iload_n 3, 136, 3, 0, 0) := by decide +kernel
theorem q136_136 : am_look 136 136 = some (.aload_n 0, 137, 0, 0, 0) := by decide +kernel
theorem q136_137 : am_look 136 137 = some (.getfield 7, 140, 768, 0, 0) := by decide +kernel
theorem q136_140 : am_look 136 140 = some (.iconst 3, 141, 0, 0, 3) := by decide +kernel
theorem q136_141 : am_look 136 141 = some (.iaload, 142, 0, 0, 0) := by decide +kernel
theorem q136_142 : am_look 136 142 = some (.if_icmp .ge 34, 145, 176, 0, 0) := by decide +kernel
theorem q136_145 : am_look 136 145 = some (.iload_n 2, 146, 2, 0, 0) := by decide +kernel
theorem q136_146 : am_look 136 146 = some (.aload_n 0, 147, 0, 0, 0) := by decide +kernel
theorem q136_147 : am_look 136 147 = some (.getfield 7, 150, 768, 0, 0) := by decide +kernel
theorem q136_150 : am_look 136 150 = some (.sipush 520, 153, 0, 0, 520) := by decide +kernel
theorem q136_153 : am_look 136 153 = some (.iconst 5, 154, 0, 0, 5) := by decide +kernel
theorem q136_154 : am_look 136 154 = some (.iload_n 3, 155, 3, 0, 0) := by decide +kernel
theorem q136_155 : am_look 136 155 = some (.imul, 156, 0, 0, 0) := by decide +kernel
theorem q136_156 : am_look 136 156 = some (.iadd, 157, 0, 0, 0) := by decide +kernel
theorem q136_157 : am_look 136 157 = some (.iconst 4, 158, 0, 0, 4) := by decide +kernel
theorem q136_158 : am_look 136 158 = some (.iadd, 159, 0, 0, 0) := by decide +kernel
theorem q136_159 : am_look 136 159 = some (.iaload, 160, 0, 0, 0) := by decide +kernel
theorem q136_160 : am_look 136 160 = some (.ifCond .ge 7, 163, 167, 0, 0) := by decide +kernel
theorem q136_163 : am_look 136 163 = some (.iconst 1, 164, 0, 0, 1) := by decide +kernel
theorem q136_164 : am_look 136 164 = some (.goto 4, 167, 168, 0, 0) := by decide +kernel
theorem q136_167 : am_look 136 167 = some (.iconst 0, 168, 0, 0, 0) := by decide +kernel
theorem q136_168 : am_look 136 168 = some (.iadd, 169, 0, 0, 0) := by decide +kernel
theorem q136_169 : am_look 136 169 = some (.istore_n 2, 170, 2, 0, 0) := by decide +kernel
theorem q136_170 : am_look 136 170 = some (.iinc 3 1, 173, 3, 0, 1) := by decide +kernel
theorem q136_173 : am_look 136 173 = some (.goto (-38), 176, 135, 0, 0) := by decide +kernel
theorem q136_176 : am_look 136 176 = some (.iload_n 2, 177, 2, 0, 0) := by decide +kernel
theorem q136_177 : am_look 136 177 = some (.ireturn, 178, 0, 0, 0) := by decide +kernel
theorem q136_178 : am_look 136 178 = some (.aload_n 0, 179, 0, 0, 0) := by decide +kernel
theorem q136_179 : am_look 136 179 = some (.getfield 7, 182, 768, 0, 0) := by decide +kernel
theorem q136_182 : am_look 136 182 = some (.iconst 4, 183, 0, 0, 4) := by decide +kernel
theorem q136_183 : am_look 136 183 = some (.iaload, 184, 0, 0, 0) := by decide +kernel
theorem q136_184 : am_look 136 184 = some (.ireturn, 185, 0, 0, 0) := by decide +kernel
theorem q136_185 : am_look 136 185 = some (.iconst 0, 186, 0, 0, 0) := by decide +kernel
theorem q136_186 : am_look 136 186 = some (.istore_n 3, 187, 3, 0, 0) := by decide +kernel
theorem q136_187 : am_look 136 187 = some (.iload_n 3, 188, 3, 0, 0) := by decide +kernel
theorem q136_188 : am_look 136 188 = some (.aload_n 0, 189, 0, 0, 0) := by decide +kernel
theorem q136_189 : am_look 136 189 = some (.getfield 7, 192, 768, 0, 0) := by decide +kernel
theorem q136_192 : am_look 136 192 = some (.iconst 0, 193, 0, 0, 0) := by decide +kernel
theorem q136_193 : am_look 136 193 = some (.iaload, 194, 0, 0, 0) := by decide +kernel
theorem q136_194 : am_look 136 194 = some (.if_icmp .ge 17, 197, 211, 0, 0) := by decide +kernel
theorem q136_197 : am_look 136 197 = some (.iload_n 2, 198, 2, 0, 0) := by decide +kernel
theorem q136_198 : am_look 136 198 = some (.aload_n 0, 199, 0, 0, 0) := by decide +kernel
theorem q136_199 : am_look 136 199 = some (.iload_n 3, 200, 3, 0, 0) := by decide +kernel
theorem q136_200 : am_look 136 200 = some (.invokevirtual 182, 203, 75, 2, 12) := by decide +kernel
theorem q136_203 : am_look 136 203 = some (.iadd, 204, 0, 0, 0) := by decide +kernel
theorem q136_204 : am_look 136 204 = some (.istore_n 2, 205, 2, 0, 0) := by decide +kernel
theorem q136_205 : am_look 136 205 = some (.iinc 3 1, 208, 3, 0, 1) := by decide +kernel
theorem q136_208 : am_look 136 208 = some (.goto (-21), 211, 187, 0, 0) := by decide +kernel
theorem q136_211 : am_look 136 211 = some (.iload_n 2, 212, 2, 0, 0) := by decide +kernel
theorem q136_212 : am_look 136 212 = some (.ireturn, 213, 0, 0, 0) := by decide +kernel
theorem q136_213 : am_look 136 213 = some (.aload_n 0, 214, 0, 0, 0) := by decide +kernel
theorem q136_214 : am_look 136 214 = some (.getfield 79, 217, 771, 3, 0) := by decide +kernel
theorem q136_217 : am_look 136 217 = some (.ireturn, 218, 0, 0, 0) := by decide +kernel
theorem q136_218 : am_look 136 218 = some (.aload_n 0, 219, 0, 0, 0) := by decide +kernel
theorem q136_219 : am_look 136 219 = some (.ldc 95, 221, 0, 0, (-100001)) := by decide +kernel
theorem q136_221 : am_look 136 221 = some (.invokevirtual 91, 224, 74, 2, 12) := by decide +kernel
theorem q136_224 : am_look 136 224 = some (.ireturn, 225, 0, 0, 0) := by decide +kernel
theorem zb136 : am_zb 136 = false := by decide +kernel
theorem ml136 : am_ml 136 = 5 := by decide +kernel
theorem np136 : am_np 136 + (if am_sc 136 then 0 else 1) = 2 := by decide +kernel
theorem st136 {d : Nat} {h h1 : am_H} {r : Option am_V} (p0 : Nat) (a1 : Int) (H : am_x (am_cd d) 136 (fun r2 h2 => r2 = r ∧ h2 = h1) 0 0 [some (.inr (.inr p0)), some (.inl a1), none, none, none] [] h) : am_cd (d + 1) 136 [.inr (.inr p0), .inl a1] h r h1 := by
  refine ⟨⟨by rw [ml136]; simp [am_en], by rw [np136]; rfl⟩, ?_⟩
  rw [ml136]; exact H
theorem q137_0 : am_look 137 0 = some (.aload_n 0, 1, 0, 0, 0) := by decide +kernel
theorem q137_1 : am_look 137 1 = some (.arraylength, 2, 0, 0, 0) := by decide +kernel
theorem q137_2 : am_look 137 2 = some (.iload_n 1, 3, 1, 0, 0) := by decide +kernel
theorem q137_3 : am_look 137 3 = some (.iload_n 2, 4, 2, 0, 0) := by decide +kernel
theorem q137_4 : am_look 137 4 = some (.invokestatic 13, 7, 89, 3, 99) := by decide +kernel
theorem q137_7 : am_look 137 7 = some (.iload_n 1, 8, 1, 0, 0) := by decide +kernel
theorem q137_8 : am_look 137 8 = some (.istore 4, 10, 4, 0, 0) := by decide +kernel
theorem q137_10 : am_look 137 10 = some (.iload 4, 12, 4, 0, 0) := by decide +kernel
theorem q137_12 : am_look 137 12 = some (.iload_n 2, 13, 2, 0, 0) := by decide +kernel
theorem q137_13 : am_look 137 13 = some (.if_icmp .ge 14, 16, 27, 0, 0) := by decide +kernel
theorem q137_16 : am_look 137 16 = some (.aload_n 0, 17, 0, 0, 0) := by decide +kernel
theorem q137_17 : am_look 137 17 = some (.iload 4, 19, 4, 0, 0) := by decide +kernel
theorem q137_19 : am_look 137 19 = some (.iload_n 3, 20, 3, 0, 0) := by decide +kernel
theorem q137_20 : am_look 137 20 = some (.iastore, 21, 0, 0, 0) := by decide +kernel
theorem q137_21 : am_look 137 21 = some (.iinc 4 1, 24, 4, 0, 1) := by decide +kernel
theorem q137_24 : am_look 137 24 = some (.goto (-14), 27, 10, 0, 0) := by decide +kernel
theorem q137_27 : am_look 137 27 = some (.return_, 28, 0, 0, 0) := by decide +kernel
theorem zb137 : am_zb 137 = false := by decide +kernel
theorem ml137 : am_ml 137 = 5 := by decide +kernel
theorem np137 : am_np 137 + (if am_sc 137 then 0 else 1) = 4 := by decide +kernel
theorem st137 {d : Nat} {h h1 : am_H} {r : Option am_V} (a1 : Nat) (a2 : Int) (a3 : Int) (a4 : Int) (H : am_x (am_cd d) 137 (fun r2 h2 => r2 = r ∧ h2 = h1) 0 0 [some (.inr (.inr a1)), some (.inl a2), some (.inl a3), some (.inl a4), none] [] h) : am_cd (d + 1) 137 [.inr (.inr a1), .inl a2, .inl a3, .inl a4] h r h1 := by
  refine ⟨⟨by rw [ml137]; simp [am_en], by rw [np137]; rfl⟩, ?_⟩
  rw [ml137]; exact H
theorem q138_0 : am_look 138 0 = some (.aload_n 0, 1, 0, 0, 0) := by decide +kernel
theorem q138_1 : am_look 138 1 = some (.iload_n 1, 2, 1, 0, 0) := by decide +kernel
theorem q138_2 : am_look 138 2 = some (.iload_n 2, 3, 2, 0, 0) := by decide +kernel
theorem q138_3 : am_look 138 3 = some (.iload 4, 5, 4, 0, 0) := by decide +kernel
theorem q138_5 : am_look 138 5 = some (.invokevirtual 63, 8, 92, 4, 0) := by decide +kernel
theorem q138_8 : am_look 138 8 = some (.aload_n 0, 9, 0, 0, 0) := by decide +kernel
theorem q138_9 : am_look 138 9 = some (.getfield 29, 12, 7, 7, 0) := by decide +kernel
theorem q138_12 : am_look 138 12 = some (.iload_n 3, 13, 3, 0, 0) := by decide +kernel
theorem q138_13 : am_look 138 13 = some (.iaload, 14, 0, 0, 0) := by decide +kernel
theorem q138_14 : am_look 138 14 = some (.ireturn, 15, 0, 0, 0) := by decide +kernel
theorem zb138 : am_zb 138 = false := by decide +kernel
theorem ml138 : am_ml 138 = 5 := by decide +kernel
theorem np138 : am_np 138 + (if am_sc 138 then 0 else 1) = 5 := by decide +kernel
theorem st138 {d : Nat} {h h1 : am_H} {r : Option am_V} (p0 : Nat) (a1 : Int) (a2 : Int) (a3 : Int) (a4 : Int) (H : am_x (am_cd d) 138 (fun r2 h2 => r2 = r ∧ h2 = h1) 0 0 [some (.inr (.inr p0)), some (.inl a1), some (.inl a2), some (.inl a3), some (.inl a4)] [] h) : am_cd (d + 1) 138 [.inr (.inr p0), .inl a1, .inl a2, .inl a3, .inl a4] h r h1 := by
  refine ⟨⟨by rw [ml138]; simp [am_en], by rw [np138]; rfl⟩, ?_⟩
  rw [ml138]; exact H
theorem q139_0 : am_look 139 0 = some (.aload_n 0, 1, 0, 0, 0) := by decide +kernel
theorem q139_1 : am_look 139 1 = some (.iload_n 1, 2, 1, 0, 0) := by decide +kernel
theorem q139_2 : am_look 139 2 = some (.iload_n 2, 3, 2, 0, 0) := by decide +kernel
theorem q139_3 : am_look 139 3 = some (.iload_n 3, 4, 3, 0, 0) := by decide +kernel
theorem q139_4 : am_look 139 4 = some (.invokevirtual 63, 7, 92, 4, 0) := by decide +kernel
theorem q139_7 : am_look 139 7 = some (.iconst (-1), 8, 0, 0, (-1)) := by decide +kernel
theorem q139_8 : am_look 139 8 = some (.istore 4, 10, 4, 0, 0) := by decide +kernel
theorem q139_10 : am_look 139 10 = some (.iconst 0, 11, 0, 0, 0) := by decide +kernel
theorem q139_11 : am_look 139 11 = some (.istore 5, 13, 5, 0, 0) := by decide +kernel
theorem q139_13 : am_look 139 13 = some (.iconst 0, 14, 0, 0, 0) := by decide +kernel
theorem q139_14 : am_look 139 14 = some (.istore 6, 16, 6, 0, 0) := by decide +kernel
theorem q139_16 : am_look 139 16 = some (.iload 6, 18, 6, 0, 0) := by decide +kernel
theorem q139_18 : am_look 139 18 = some (.aload_n 0, 19, 0, 0, 0) := by decide +kernel
theorem q139_19 : am_look 139 19 = some (.getfield 29, 22, 7, 7, 0) := by decide +kernel
theorem q139_22 : am_look 139 22 = some (.arraylength, 23, 0, 0, 0) := by decide +kernel
theorem q139_23 : am_look 139 23 = some (.if_icmp .ge 34, 26, 57, 0, 0) := by decide +kernel
theorem q139_26 : am_look 139 26 = some (.aload_n 0, 27, 0, 0, 0) := by decide +kernel
theorem q139_27 : am_look 139 27 = some (.getfield 29, 30, 7, 7, 0) := by decide +kernel
theorem q139_30 : am_look 139 30 = some (.iload 6, 32, 6, 0, 0) := by decide +kernel
theorem q139_32 : am_look 139 32 = some (.iaload, 33, 0, 0, 0) := by decide +kernel
theorem q139_33 : am_look 139 33 = some (.iload 5, 35, 5, 0, 0) := by decide +kernel
theorem q139_35 : am_look 139 35 = some (.if_icmp .le 16, 38, 51, 0, 0) := by decide +kernel
theorem q139_38 : am_look 139 38 = some (.iload 6, 40, 6, 0, 0) := by decide +kernel
theorem q139_40 : am_look 139 40 = some (.istore 4, 42, 4, 0, 0) := by decide +kernel
theorem q139_42 : am_look 139 42 = some (.aload_n 0, 43, 0, 0, 0) := by decide +kernel
theorem q139_43 : am_look 139 43 = some (.getfield 29, 46, 7, 7, 0) := by decide +kernel
theorem q139_46 : am_look 139 46 = some (.iload 6, 48, 6, 0, 0) := by decide +kernel
theorem q139_48 : am_look 139 48 = some (.iaload, 49, 0, 0, 0) := by decide +kernel
theorem q139_49 : am_look 139 49 = some (.istore 5, 51, 5, 0, 0) := by decide +kernel
theorem q139_51 : am_look 139 51 = some (.iinc 6 1, 54, 6, 0, 1) := by decide +kernel
theorem q139_54 : am_look 139 54 = some (.goto (-38), 57, 16, 0, 0) := by decide +kernel
theorem q139_57 : am_look 139 57 = some (.iload 4, 59, 4, 0, 0) := by decide +kernel
theorem q139_59 : am_look 139 59 = some (.ireturn, 60, 0, 0, 0) := by decide +kernel
theorem zb139 : am_zb 139 = false := by decide +kernel
theorem ml139 : am_ml 139 = 7 := by decide +kernel
theorem np139 : am_np 139 + (if am_sc 139 then 0 else 1) = 4 := by decide +kernel
theorem st139 {d : Nat} {h h1 : am_H} {r : Option am_V} (p0 : Nat) (a1 : Int) (a2 : Int) (a3 : Int) (H : am_x (am_cd d) 139 (fun r2 h2 => r2 = r ∧ h2 = h1) 0 0 [some (.inr (.inr p0)), some (.inl a1), some (.inl a2), some (.inl a3), none, none, none] [] h) : am_cd (d + 1) 139 [.inr (.inr p0), .inl a1, .inl a2, .inl a3] h r h1 := by
  refine ⟨⟨by rw [ml139]; simp [am_en], by rw [np139]; rfl⟩, ?_⟩
  rw [ml139]; exact H
theorem q140_0 : am_look 140 0 = some (.iconst 0, 1, 0, 0, 0) := by decide +kernel
theorem q140_1 : am_look 140 1 = some (.istore_n 3, 2, 3, 0, 0) := by decide +kernel
theorem q140_2 : am_look 140 2 = some (.iconst 0, 3, 0, 0, 0) := by decide +kernel
theorem q140_3 : am_look 140 3 = some (.istore 4, 5, 4, 0, 0) := by decide +kernel
theorem q140_5 : am_look 140 5 = some (.iload 4, 7, 4, 0, 0) := by decide +kernel
theorem q140_7 : am_look 140 7 = some (.aload_n 0, 8, 0, 0, 0) := by decide +kernel
theorem q140_8 : am_look 140 8 = some (.getfield 9, 11, 128, 0, 0) := by decide +kernel
theorem q140_11 : am_look 140 11 = some (.invokevirtual 45, 14, 36, 1, 6) := by decide +kernel
theorem q140_14 : am_look 140 14 = some (.if_icmp .ge 31, 17, 45, 0, 0) := by decide +kernel
theorem q140_17 : am_look 140 17 = some (.iload_n 3, 18, 3, 0, 0) := by decide +kernel
theorem q140_18 : am_look 140 18 = some (.aload_n 0, 19, 0, 0, 0) := by decide +kernel
theorem q140_19 : am_look 140 19 = some (.iload 4, 21, 4, 0, 0) := by decide +kernel
theorem q140_21 : am_look 140 21 = some (.iload_n 1, 22, 1, 0, 0) := by decide +kernel
theorem q140_22 : am_look 140 22 = some (.invokevirtual 51, 25, 93, 3, 2) := by decide +kernel
theorem q140_25 : am_look 140 25 = some (.iload_n 2, 26, 2, 0, 0) := by decide +kernel
theorem q140_26 : am_look 140 26 = some (.if_icmp .ge 10, 29, 36, 0, 0) := by decide +kernel
theorem q140_29 : am_look 140 29 = some (.iconst 1, 30, 0, 0, 1) := by decide +kernel
theorem q140_30 : am_look 140 30 = some (.iload 4, 32, 4, 0, 0) := by decide +kernel
theorem q140_32 : am_look 140 32 = some (.ishl, 33, 0, 0, 0) := by decide +kernel
theorem q140_33 : am_look 140 33 = some (.goto 4, 36, 37, 0, 0) := by decide +kernel
theorem q140_36 : am_look 140 36 = some (.iconst 0, 37, 0, 0, 0) := by decide +kernel
theorem q140_37 : am_look 140 37 = some (.ior, 38, 0, 0, 0) := by decide +kernel
theorem q140_38 : am_look 140 38 = some (.istore_n 3, 39, 3, 0, 0) := by decide +kernel
theorem q140_39 : am_look 140 39 = some (.iinc 4 1, 42, 4, 0, 1) := by decide +kernel
theorem q140_42 : am_look 140 42 = some (.goto (-37), 45, 5, 0, 0) := by decide +kernel
theorem q140_45 : am_look 140 45 = some (.aload_n 0, 46, 0, 0, 0) := by decide +kernel
theorem q140_46 : am_look 140 46 = some (.aload_n 0, 47, 0, 0, 0) := by decide +kernel
theorem q140_47 : am_look 140 47 = some (.getfield 9, 50, 128, 0, 0) := by decide +kernel
theorem q140_50 : am_look 140 50 = some (.iload_n 3, 51, 3, 0, 0) := by decide +kernel
theorem q140_51 : am_look 140 51 = some (.aload_n 0, 52, 0, 0, 0) := by decide +kernel
theorem q140_52 : am_look 140 52 = some (.getfield 58, 55, 131, 3, 0) := by decide +kernel
theorem q140_55 : am_look 140 55 = some (.iand, 56, 0, 0, 0) := by decide +kernel
theorem q140_56 : am_look 140 56 = some (.iload_n 3, 57, 3, 0, 0) := by decide +kernel
theorem q140_57 : am_look 140 57 = some (.iconst (-1), 58, 0, 0, (-1)) := by decide +kernel
theorem q140_58 : am_look 140 58 = some (.ixor, 59, 0, 0, 0) := by decide +kernel
theorem q140_59 : am_look 140 59 = some (.aload_n 0, 60, 0, 0, 0) := by decide +kernel
theorem q140_60 : am_look 140 60 = some (.getfield 55, 63, 130, 2, 0) := by decide +kernel
theorem q140_63 : am_look 140 63 = some (.iand, 64, 0, 0, 0) := by decide +kernel
theorem q140_64 : am_look 140 64 = some (.ior, 65, 0, 0, 0) := by decide +kernel
theorem q140_65 : am_look 140 65 = some (.invokevirtual 77, 68, 44, 2, 6) := by decide +kernel
theorem q140_68 : am_look 140 68 = some (.iload_n 1, 69, 1, 0, 0) := by decide +kernel
theorem q140_69 : am_look 140 69 = some (.iload_n 2, 70, 2, 0, 0) := by decide +kernel
theorem q140_70 : am_look 140 70 = some (.iconst 0, 71, 0, 0, 0) := by decide +kernel
theorem q140_71 : am_look 140 71 = some (.invokevirtual 80, 74, 18, 5, 2) := by decide +kernel
theorem q140_74 : am_look 140 74 = some (.aload_n 0, 75, 0, 0, 0) := by decide +kernel
theorem q140_75 : am_look 140 75 = some (.aload_n 0, 76, 0, 0, 0) := by decide +kernel
theorem q140_76 : am_look 140 76 = some (.getfield 9, 79, 128, 0, 0) := by decide +kernel
theorem q140_79 : am_look 140 79 = some (.iload_n 3, 80, 3, 0, 0) := by decide +kernel
theorem q140_80 : am_look 140 80 = some (.aload_n 0, 81, 0, 0, 0) := by decide +kernel
theorem q140_81 : am_look 140 81 = some (.getfield 55, 84, 130, 2, 0) := by decide +kernel
theorem q140_84 : am_look 140 84 = some (.iand, 85, 0, 0, 0) := by decide +kernel
theorem q140_85 : am_look 140 85 = some (.iload_n 3, 86, 3, 0, 0) := by decide +kernel
theorem q140_86 : am_look 140 86 = some (.iconst (-1), 87, 0, 0, (-1)) := by decide +kernel
theorem q140_87 : am_look 140 87 = some (.ixor, 88, 0, 0, 0) := by decide +kernel
theorem q140_88 : am_look 140 88 = some (.aload_n 0, 89, 0, 0, 0) := by decide +kernel
theorem q140_89 : am_look 140 89 = some (.getfield 58, 92, 131, 3, 0) := by decide +kernel
theorem q140_92 : am_look 140 92 = some (.iand, 93, 0, 0, 0) := by decide +kernel
theorem q140_93 : am_look 140 93 = some (.ior, 94, 0, 0, 0) := by decide +kernel
theorem q140_94 : am_look 140 94 = some (.invokevirtual 77, 97, 44, 2, 6) := by decide +kernel
theorem q140_97 : am_look 140 97 = some (.iload_n 1, 98, 1, 0, 0) := by decide +kernel
theorem q140_98 : am_look 140 98 = some (.iload_n 2, 99, 2, 0, 0) := by decide +kernel
theorem q140_99 : am_look 140 99 = some (.iconst 1, 100, 0, 0, 1) := by decide +kernel
theorem q140_100 : am_look 140 100 = some (.invokevirtual 80, 103, 18, 5, 2) := by decide +kernel
theorem q140_103 : am_look 140 103 = some (.return_, 104, 0, 0, 0) := by decide +kernel
theorem zb140 : am_zb 140 = false := by decide +kernel
theorem ml140 : am_ml 140 = 5 := by decide +kernel
theorem np140 : am_np 140 + (if am_sc 140 then 0 else 1) = 3 := by decide +kernel
theorem st140 {d : Nat} {h h1 : am_H} {r : Option am_V} (p0 : Nat) (a1 : Int) (a2 : Int) (H : am_x (am_cd d) 140 (fun r2 h2 => r2 = r ∧ h2 = h1) 0 0 [some (.inr (.inr p0)), some (.inl a1), some (.inl a2), none, none] [] h) : am_cd (d + 1) 140 [.inr (.inr p0), .inl a1, .inl a2] h r h1 := by
  refine ⟨⟨by rw [ml140]; simp [am_en], by rw [np140]; rfl⟩, ?_⟩
  rw [ml140]; exact H
theorem q141_0 : am_look 141 0 = some (.iload_n 3, 1, 3, 0, 0) := by decide +kernel
theorem q141_1 : am_look 141 1 = some (.aload_n 0, 2, 0, 0, 0) := by decide +kernel
theorem q141_2 : am_look 141 2 = some (.iload_n 1, 3, 1, 0, 0) := by decide +kernel
theorem q141_3 : am_look 141 3 = some (.iload_n 2, 4, 2, 0, 0) := by decide +kernel
theorem q141_4 : am_look 141 4 = some (.iload 4, 6, 4, 0, 0) := by decide +kernel
theorem q141_6 : am_look 141 6 = some (.invokevirtual 89, 9, 94, 4, 3) := by decide +kernel
theorem q141_9 : am_look 141 9 = some (.iadd, 10, 0, 0, 0) := by decide +kernel
theorem q141_10 : am_look 141 10 = some (.aload_n 0, 11, 0, 0, 0) := by decide +kernel
theorem q141_11 : am_look 141 11 = some (.getfield 82, 14, 200, 8, 0) := by decide +kernel
theorem q141_14 : am_look 141 14 = some (.if_icmp .lt 4, 17, 18, 0, 0) := by decide +kernel
theorem q141_17 : am_look 141 17 = some (.return_, 18, 0, 0, 0) := by decide +kernel
theorem q141_18 : am_look 141 18 = some (.iload_n 1, 19, 1, 0, 0) := by decide +kernel
theorem q141_19 : am_look 141 19 = some (.aload_n 0, 20, 0, 0, 0) := by decide +kernel
theorem q141_20 : am_look 141 20 = some (.getfield 73, 23, 201, 9, 0) := by decide +kernel
theorem q141_23 : am_look 141 23 = some (.if_icmp .lt 27, 26, 50, 0, 0) := by decide +kernel
theorem q141_26 : am_look 141 26 = some (.aload_n 0, 27, 0, 0, 0) := by decide +kernel
theorem q141_27 : am_look 141 27 = some (.iload_n 3, 28, 3, 0, 0) := by decide +kernel
theorem q141_28 : am_look 141 28 = some (.putfield 82, 31, 200, 8, 0) := by decide +kernel
theorem q141_31 : am_look 141 31 = some (.aload_n 0, 32, 0, 0, 0) := by decide +kernel
theorem q141_32 : am_look 141 32 = some (.getfield 23, 35, 198, 6, 0) := by decide +kernel
theorem q141_35 : am_look 141 35 = some (.iconst 0, 36, 0, 0, 0) := by decide +kernel
theorem q141_36 : am_look 141 36 = some (.aload_n 0, 37, 0, 0, 0) := by decide +kernel
theorem q141_37 : am_look 141 37 = some (.getfield 26, 40, 199, 7, 0) := by decide +kernel
theorem q141_40 : am_look 141 40 = some (.iconst 0, 41, 0, 0, 0) := by decide +kernel
theorem q141_41 : am_look 141 41 = some (.aload_n 0, 42, 0, 0, 0) := by decide +kernel
theorem q141_42 : am_look 141 42 = some (.getfield 23, 45, 198, 6, 0) := by decide +kernel
theorem q141_45 : am_look 141 45 = some (.arraylength, 46, 0, 0, 0) := by decide +kernel
theorem q141_46 : am_look 141 46 = some (.invokestatic 92, 49, 9999, 5, 0) := by decide +kernel
theorem q141_49 : am_look 141 49 = some (.return_, 50, 0, 0, 0) := by decide +kernel
theorem q141_50 : am_look 141 50 = some (.iconst 0, 51, 0, 0, 0) := by decide +kernel
theorem q141_51 : am_look 141 51 = some (.istore 5, 53, 5, 0, 0) := by decide +kernel
theorem q141_53 : am_look 141 53 = some (.iload 5, 55, 5, 0, 0) := by decide +kernel
theorem q141_55 : am_look 141 55 = some (.iload_n 2, 56, 2, 0, 0) := by decide +kernel
theorem q141_56 : am_look 141 56 = some (.if_icmp .gt 80, 59, 136, 0, 0) := by decide +kernel
theorem q141_59 : am_look 141 59 = some (.iload 5, 61, 5, 0, 0) := by decide +kernel
theorem q141_61 : am_look 141 61 = some (.iload 4, 63, 4, 0, 0) := by decide +kernel
theorem q141_63 : am_look 141 63 = some (.if_icmp .ge 73, 66, 136, 0, 0) := by decide +kernel
theorem q141_66 : am_look 141 66 = some (.iload_n 3, 67, 3, 0, 0) := by decide +kernel
theorem q141_67 : am_look 141 67 = some (.aload_n 0, 68, 0, 0, 0) := by decide +kernel
theorem q141_68 : am_look 141 68 = some (.iload_n 1, 69, 1, 0, 0) := by decide +kernel
theorem q141_69 : am_look 141 69 = some (.iload 5, 71, 5, 0, 0) := by decide +kernel
theorem q141_71 : am_look 141 71 = some (.iload_n 2, 72, 2, 0, 0) := by decide +kernel
theorem q141_72 : am_look 141 72 = some (.invokevirtual 98, 75, 20, 4, 3) := by decide +kernel
theorem q141_75 : am_look 141 75 = some (.iadd, 76, 0, 0, 0) := by decide +kernel
theorem q141_76 : am_look 141 76 = some (.istore 6, 78, 6, 0, 0) := by decide +kernel
theorem q141_78 : am_look 141 78 = some (.iload 6, 80, 6, 0, 0) := by decide +kernel
theorem q141_80 : am_look 141 80 = some (.aload_n 0, 81, 0, 0, 0) := by decide +kernel
theorem q141_81 : am_look 141 81 = some (.getfield 82, 84, 200, 8, 0) := by decide +kernel
theorem q141_84 : am_look 141 84 = some (.if_icmp .ge 46, 87, 130, 0, 0) := by decide +kernel
theorem q141_87 : am_look 141 87 = some (.aload_n 0, 88, 0, 0, 0) := by decide +kernel
theorem q141_88 : am_look 141 88 = some (.getfield 23, 91, 198, 6, 0) := by decide +kernel
theorem q141_91 : am_look 141 91 = some (.iload_n 1, 92, 1, 0, 0) := by decide +kernel
theorem q141_92 : am_look 141 92 = some (.iload 5, 94, 5, 0, 0) := by decide +kernel
theorem q141_94 : am_look 141 94 = some (.iastore, 95, 0, 0, 0) := by decide +kernel
theorem q141_95 : am_look 141 95 = some (.aload_n 0, 96, 0, 0, 0) := by decide +kernel
theorem q141_96 : am_look 141 96 = some (.iload_n 1, 97, 1, 0, 0) := by decide +kernel
theorem q141_97 : am_look 141 97 = some (.iload 5, 99, 5, 0, 0) := by decide +kernel
theorem q141_99 : am_look 141 99 = some (.iconst 1, 100, 0, 0, 1) := by decide +kernel
theorem q141_100 : am_look 141 100 = some (.invokevirtual 101, 103, 19, 4, 3) := by decide +kernel
theorem q141_103 : am_look 141 103 = some (.aload_n 0, 104, 0, 0, 0) := by decide +kernel
theorem q141_104 : am_look 141 104 = some (.iload_n 1, 105, 1, 0, 0) := by decide +kernel
theorem q141_105 : am_look 141 105 = some (.iconst 1, 106, 0, 0, 1) := by decide +kernel
theorem q141_106 : am_look 141 106 = some (.iadd, 107, 0, 0, 0) := by decide +kernel
theorem q141_107 : am_look 141 107 = some (.iload_n 2, 108, 2, 0, 0) := by decide +kernel
theorem q141_108 : am_look 141 108 = some (.iload 5, 110, 5, 0, 0) := by decide +kernel
theorem q141_110 : am_look 141 110 = some (.iconst 1, 111, 0, 0, 1) := by decide +kernel
theorem q141_111 : am_look 141 111 = some (.iadd, 112, 0, 0, 0) := by decide +kernel
theorem q141_112 : am_look 141 112 = some (.invokestatic 105, 115, 87, 2, 99) := by decide +kernel
theorem q141_115 : am_look 141 115 = some (.iload 6, 117, 6, 0, 0) := by decide +kernel
theorem q141_117 : am_look 141 117 = some (.iload 4, 119, 4, 0, 0) := by decide +kernel
theorem q141_119 : am_look 141 119 = some (.invokevirtual 85, 122, 141, 5, 3) := by decide +kernel
theorem q141_122 : am_look 141 122 = some (.aload_n 0, 123, 0, 0, 0) := by decide +kernel
theorem q141_123 : am_look 141 123 = some (.iload_n 1, 124, 1, 0, 0) := by decide +kernel
theorem q141_124 : am_look 141 124 = some (.iload 5, 126, 5, 0, 0) := by decide +kernel
theorem q141_126 : am_look 141 126 = some (.iconst (-1), 127, 0, 0, (-1)) := by decide +kernel
theorem q141_127 : am_look 141 127 = some (.invokevirtual 101, 130, 19, 4, 3) := by decide +kernel
theorem q141_130 : am_look 141 130 = some (.iinc 5 1, 133, 5, 0, 1) := by decide +kernel
theorem q141_133 : am_look 141 133 = some (.goto (-80), 136, 53, 0, 0) := by decide +kernel
theorem q141_136 : am_look 141 136 = some (.return_, 137, 0, 0, 0) := by decide +kernel
theorem zb141 : am_zb 141 = false := by decide +kernel
theorem ml141 : am_ml 141 = 7 := by decide +kernel
theorem np141 : am_np 141 + (if am_sc 141 then 0 else 1) = 5 := by decide +kernel
theorem st141 {d : Nat} {h h1 : am_H} {r : Option am_V} (p0 : Nat) (a1 : Int) (a2 : Int) (a3 : Int) (a4 : Int) (H : am_x (am_cd d) 141 (fun r2 h2 => r2 = r ∧ h2 = h1) 0 0 [some (.inr (.inr p0)), some (.inl a1), some (.inl a2), some (.inl a3), some (.inl a4), none, none] [] h) : am_cd (d + 1) 141 [.inr (.inr p0), .inl a1, .inl a2, .inl a3, .inl a4] h r h1 := by
  refine ⟨⟨by rw [ml141]; simp [am_en], by rw [np141]; rfl⟩, ?_⟩
  rw [ml141]; exact H
theorem q142_0 : am_look 142 0 = some (.aload_n 0, 1, 0, 0, 0) := by decide +kernel
theorem q142_1 : am_look 142 1 = some (.getfield 11, 4, 257, 1, 0) := by decide +kernel
theorem q142_4 : am_look 142 4 = some (.aload_n 0, 5, 0, 0, 0) := by decide +kernel
theorem q142_5 : am_look 142 5 = some (.getfield 27, 8, 256, 0, 0) := by decide +kernel
theorem q142_8 : am_look 142 8 = some (.aload_n 0, 9, 0, 0, 0) := by decide +kernel
theorem q142_9 : am_look 142 9 = some (.getfield 33, 12, 259, 3, 0) := by decide +kernel
theorem q142_12 : am_look 142 12 = some (.iastore, 13, 0, 0, 0) := by decide +kernel
theorem q142_13 : am_look 142 13 = some (.iconst 0, 14, 0, 0, 0) := by decide +kernel
theorem q142_14 : am_look 142 14 = some (.istore_n 1, 15, 1, 0, 0) := by decide +kernel
theorem q142_15 : am_look 142 15 = some (.iload_n 1, 16, 1, 0, 0) := by decide +kernel
theorem q142_16 : am_look 142 16 = some (.aload_n 0, 17, 0, 0, 0) := by decide +kernel
theorem q142_17 : am_look 142 17 = some (.getfield 33, 20, 259, 3, 0) := by decide +kernel
theorem q142_20 : am_look 142 20 = some (.if_icmp .ge 29, 23, 49, 0, 0) := by decide +kernel
theorem q142_23 : am_look 142 23 = some (.aload_n 0, 24, 0, 0, 0) := by decide +kernel
theorem q142_24 : am_look 142 24 = some (.getfield 15, 27, 258, 2, 0) := by decide +kernel
theorem q142_27 : am_look 142 27 = some (.aload_n 0, 28, 0, 0, 0) := by decide +kernel
theorem q142_28 : am_look 142 28 = some (.getfield 27, 31, 256, 0, 0) := by decide +kernel
theorem q142_31 : am_look 142 31 = some (.bipush 8, 33, 0, 0, 8) := by decide +kernel
theorem q142_33 : am_look 142 33 = some (.imul, 34, 0, 0, 0) := by decide +kernel
theorem q142_34 : am_look 142 34 = some (.iload_n 1, 35, 1, 0, 0) := by decide +kernel
theorem q142_35 : am_look 142 35 = some (.iadd, 36, 0, 0, 0) := by decide +kernel
theorem q142_36 : am_look 142 36 = some (.aload_n 0, 37, 0, 0, 0) := by decide +kernel
theorem q142_37 : am_look 142 37 = some (.getfield 18, 40, 260, 4, 0) := by decide +kernel
theorem q142_40 : am_look 142 40 = some (.iload_n 1, 41, 1, 0, 0) := by decide +kernel
theorem q142_41 : am_look 142 41 = some (.iaload, 42, 0, 0, 0) := by decide +kernel
theorem q142_42 : am_look 142 42 = some (.iastore, 43, 0, 0, 0) := by decide +kernel
theorem q142_43 : am_look 142 43 = some (.iinc 1 1, 46, 1, 0, 1) := by decide +kernel
theorem q142_46 : am_look 142 46 = some (.goto (-31), 49, 15, 0, 0) := by decide +kernel
theorem q142_49 : am_look 142 49 = some (.aload_n 0, 50, 0, 0, 0) := by decide +kernel
theorem q142_50 : am_look 142 50 = some (.getfield 21, 53, 261, 5, 0) := by decide +kernel
theorem q142_53 : am_look 142 53 = some (.aload_n 0, 54, 0, 0, 0) := by decide +kernel
theorem q142_54 : am_look 142 54 = some (.getfield 27, 57, 256, 0, 0) := by decide +kernel
theorem q142_57 : am_look 142 57 = some (.bipush 30, 59, 0, 0, 30) := by decide +kernel
theorem q142_59 : am_look 142 59 = some (.imul, 60, 0, 0, 0) := by decide +kernel
theorem q142_60 : am_look 142 60 = some (.aload_n 0, 61, 0, 0, 0) := by decide +kernel
theorem q142_61 : am_look 142 61 = some (.getfield 27, 64, 256, 0, 0) := by decide +kernel
theorem q142_64 : am_look 142 64 = some (.iconst 1, 65, 0, 0, 1) := by decide +kernel
theorem q142_65 : am_look 142 65 = some (.iadd, 66, 0, 0, 0) := by decide +kernel
theorem q142_66 : am_look 142 66 = some (.bipush 30, 68, 0, 0, 30) := by decide +kernel
theorem q142_68 : am_look 142 68 = some (.imul, 69, 0, 0, 0) := by decide +kernel
theorem q142_69 : am_look 142 69 = some (.iconst (-1), 70, 0, 0, (-1)) := by decide +kernel
theorem q142_70 : am_look 142 70 = some (.invokestatic 40, 73, 137, 4, 99) := by decide +kernel
theorem q142_73 : am_look 142 73 = some (.aload_n 0, 74, 0, 0, 0) := by decide +kernel
theorem q142_74 : am_look 142 74 = some (.dup, 75, 0, 0, 0) := by decide +kernel
theorem q142_75 : am_look 142 75 = some (.getfield 27, 78, 256, 0, 0) := by decide +kernel
theorem q142_78 : am_look 142 78 = some (.dup_x1, 79, 0, 0, 0) := by decide +kernel
theorem q142_79 : am_look 142 79 = some (.iconst 1, 80, 0, 0, 1) := by decide +kernel
theorem q142_80 : am_look 142 80 = some (.iadd, 81, 0, 0, 0) := by decide +kernel
theorem q142_81 : am_look 142 81 = some (.putfield 27, 84, 256, 0, 0) := by decide +kernel
theorem q142_84 : am_look 142 84 = some (.ireturn, 85, 0, 0, 0) := by decide +kernel
theorem zb142 : am_zb 142 = false := by decide +kernel
theorem ml142 : am_ml 142 = 2 := by decide +kernel
theorem np142 : am_np 142 + (if am_sc 142 then 0 else 1) = 1 := by decide +kernel
theorem st142 {d : Nat} {h h1 : am_H} {r : Option am_V} (p0 : Nat) (H : am_x (am_cd d) 142 (fun r2 h2 => r2 = r ∧ h2 = h1) 0 0 [some (.inr (.inr p0)), none] [] h) : am_cd (d + 1) 142 [.inr (.inr p0)] h r h1 := by
  refine ⟨⟨by rw [ml142]; simp [am_en], by rw [np142]; rfl⟩, ?_⟩
  rw [ml142]; exact H
theorem q143_0 : am_look 143 0 = some (.iconst 0, 1, 0, 0, 0) := by decide +kernel
theorem q143_1 : am_look 143 1 = some (.istore_n 3, 2, 3, 0, 0) := by decide +kernel
theorem q143_2 : am_look 143 2 = some (.iload_n 3, 3, 3, 0, 0) := by decide +kernel
theorem q143_3 : am_look 143 3 = some (.aload_n 0, 4, 0, 0, 0) := by decide +kernel
theorem q143_4 : am_look 143 4 = some (.getfield 27, 7, 256, 0, 0) := by decide +kernel
theorem q143_7 : am_look 143 7 = some (.if_icmp .ge 21, 10, 28, 0, 0) := by decide +kernel
theorem q143_10 : am_look 143 10 = some (.aload_n 0, 11, 0, 0, 0) := by decide +kernel
theorem q143_11 : am_look 143 11 = some (.iload_n 3, 12, 3, 0, 0) := by decide +kernel
theorem q143_12 : am_look 143 12 = some (.aload_n 1, 13, 1, 0, 0) := by decide +kernel
theorem q143_13 : am_look 143 13 = some (.iload_n 2, 14, 2, 0, 0) := by decide +kernel
theorem q143_14 : am_look 143 14 = some (.invokevirtual 46, 17, 95, 4, 4) := by decide +kernel
theorem q143_17 : am_look 143 17 = some (.ifCond .eq 5, 20, 22, 0, 0) := by decide +kernel
theorem q143_20 : am_look 143 20 = some (.iload_n 3, 21, 3, 0, 0) := by decide +kernel
theorem q143_21 : am_look 143 21 = some (.ireturn, 22, 0, 0, 0) := by decide +kernel
theorem q143_22 : am_look 143 22 = some (.iinc 3 1, 25, 3, 0, 1) := by decide +kernel
theorem q143_25 : am_look 143 25 = some (.goto (-23), 28, 2, 0, 0) := by decide +kernel
theorem q143_28 : am_look 143 28 = some (.iconst (-1), 29, 0, 0, (-1)) := by decide +kernel
theorem q143_29 : am_look 143 29 = some (.ireturn, 30, 0, 0, 0) := by decide +kernel
theorem zb143 : am_zb 143 = false := by decide +kernel
theorem ml143 : am_ml 143 = 4 := by decide +kernel
theorem np143 : am_np 143 + (if am_sc 143 then 0 else 1) = 3 := by decide +kernel
theorem st143 {d : Nat} {h h1 : am_H} {r : Option am_V} (p0 : Nat) (a1 : Nat) (a2 : Int) (H : am_x (am_cd d) 143 (fun r2 h2 => r2 = r ∧ h2 = h1) 0 0 [some (.inr (.inr p0)), some (.inr (.inr a1)), some (.inl a2), none] [] h) : am_cd (d + 1) 143 [.inr (.inr p0), .inr (.inr a1), .inl a2] h r h1 := by
  refine ⟨⟨by rw [ml143]; simp [am_en], by rw [np143]; rfl⟩, ?_⟩
  rw [ml143]; exact H
theorem q144_0 : am_look 144 0 = some (.iload_n 1, 1, 1, 0, 0) := by decide +kernel
theorem q144_1 : am_look 144 1 = some (.iload_n 2, 2, 2, 0, 0) := by decide +kernel
theorem q144_2 : am_look 144 2 = some (.invokestatic 54, 5, 87, 2, 99) := by decide +kernel
theorem q144_5 : am_look 144 5 = some (.bipush 30, 7, 0, 0, 30) := by decide +kernel
theorem q144_7 : am_look 144 7 = some (.imul, 8, 0, 0, 0) := by decide +kernel
theorem q144_8 : am_look 144 8 = some (.iload_n 1, 9, 1, 0, 0) := by decide +kernel
theorem q144_9 : am_look 144 9 = some (.iload_n 2, 10, 2, 0, 0) := by decide +kernel
theorem q144_10 : am_look 144 10 = some (.invokestatic 59, 13, 88, 2, 99) := by decide +kernel
theorem q144_13 : am_look 144 13 = some (.iadd, 14, 0, 0, 0) := by decide +kernel
theorem q144_14 : am_look 144 14 = some (.istore_n 3, 15, 3, 0, 0) := by decide +kernel
theorem q144_15 : am_look 144 15 = some (.aload_n 0, 16, 0, 0, 0) := by decide +kernel
theorem q144_16 : am_look 144 16 = some (.getfield 21, 19, 261, 5, 0) := by decide +kernel
theorem q144_19 : am_look 144 19 = some (.iload_n 3, 20, 3, 0, 0) := by decide +kernel
theorem q144_20 : am_look 144 20 = some (.iaload, 21, 0, 0, 0) := by decide +kernel
theorem q144_21 : am_look 144 21 = some (.iconst (-1), 22, 0, 0, (-1)) := by decide +kernel
theorem q144_22 : am_look 144 22 = some (.if_icmp .ne 15, 25, 37, 0, 0) := by decide +kernel
theorem q144_25 : am_look 144 25 = some (.aload_n 0, 26, 0, 0, 0) := by decide +kernel
theorem q144_26 : am_look 144 26 = some (.getfield 21, 29, 261, 5, 0) := by decide +kernel
theorem q144_29 : am_look 144 29 = some (.iload_n 3, 30, 3, 0, 0) := by decide +kernel
theorem q144_30 : am_look 144 30 = some (.aload_n 0, 31, 0, 0, 0) := by decide +kernel
theorem q144_31 : am_look 144 31 = some (.iload_n 1, 32, 1, 0, 0) := by decide +kernel
theorem q144_32 : am_look 144 32 = some (.iload_n 2, 33, 2, 0, 0) := by decide +kernel
theorem q144_33 : am_look 144 33 = some (.invokevirtual 62, 36, 96, 3, 4) := by decide +kernel
theorem q144_36 : am_look 144 36 = some (.iastore, 37, 0, 0, 0) := by decide +kernel
theorem q144_37 : am_look 144 37 = some (.aload_n 0, 38, 0, 0, 0) := by decide +kernel
theorem q144_38 : am_look 144 38 = some (.getfield 21, 41, 261, 5, 0) := by decide +kernel
theorem q144_41 : am_look 144 41 = some (.iload_n 3, 42, 3, 0, 0) := by decide +kernel
theorem q144_42 : am_look 144 42 = some (.iaload, 43, 0, 0, 0) := by decide +kernel
theorem q144_43 : am_look 144 43 = some (.ireturn, 44, 0, 0, 0) := by decide +kernel
theorem zb144 : am_zb 144 = false := by decide +kernel
theorem ml144 : am_ml 144 = 4 := by decide +kernel
theorem np144 : am_np 144 + (if am_sc 144 then 0 else 1) = 3 := by decide +kernel
theorem st144 {d : Nat} {h h1 : am_H} {r : Option am_V} (p0 : Nat) (a1 : Int) (a2 : Int) (H : am_x (am_cd d) 144 (fun r2 h2 => r2 = r ∧ h2 = h1) 0 0 [some (.inr (.inr p0)), some (.inl a1), some (.inl a2), none] [] h) : am_cd (d + 1) 144 [.inr (.inr p0), .inl a1, .inl a2] h r h1 := by
  refine ⟨⟨by rw [ml144]; simp [am_en], by rw [np144]; rfl⟩, ?_⟩
  rw [ml144]; exact H
theorem q145_0 : am_look 145 0 = some (.iconst 0, 1, 0, 0, 0) := by decide +kernel
theorem q145_1 : am_look 145 1 = some (.istore_n 2, 2, 2, 0, 0) := by decide +kernel
theorem q145_2 : am_look 145 2 = some (.iconst 0, 3, 0, 0, 0) := by decide +kernel
theorem q145_3 : am_look 145 3 = some (.istore_n 3, 4, 3, 0, 0) := by decide +kernel
theorem q145_4 : am_look 145 4 = some (.iload_n 3, 5, 3, 0, 0) := by decide +kernel
theorem q145_5 : am_look 145 5 = some (.aload_n 0, 6, 0, 0, 0) := by decide +kernel
theorem q145_6 : am_look 145 6 = some (.getfield 27, 9, 384, 0, 0) := by decide +kernel
theorem q145_9 : am_look 145 9 = some (.if_icmp .ge 24, 12, 33, 0, 0) := by decide +kernel
theorem q145_12 : am_look 145 12 = some (.aload_n 0, 13, 0, 0, 0) := by decide +kernel
theorem q145_13 : am_look 145 13 = some (.iload_n 1, 14, 1, 0, 0) := by decide +kernel
theorem q145_14 : am_look 145 14 = some (.iload_n 3, 15, 3, 0, 0) := by decide +kernel
theorem q145_15 : am_look 145 15 = some (.invokevirtual 48, 18, 99, 3, 6) := by decide +kernel
theorem q145_18 : am_look 145 18 = some (.ifCond .le 9, 21, 27, 0, 0) := by decide +kernel
theorem q145_21 : am_look 145 21 = some (.iload_n 2, 22, 2, 0, 0) := by decide +kernel
theorem q145_22 : am_look 145 22 = some (.iconst 1, 23, 0, 0, 1) := by decide +kernel
theorem q145_23 : am_look 145 23 = some (.iload_n 3, 24, 3, 0, 0) := by decide +kernel
theorem q145_24 : am_look 145 24 = some (.ishl, 25, 0, 0, 0) := by decide +kernel
theorem q145_25 : am_look 145 25 = some (.ior, 26, 0, 0, 0) := by decide +kernel
theorem q145_26 : am_look 145 26 = some (.istore_n 2, 27, 2, 0, 0) := by decide +kernel
theorem q145_27 : am_look 145 27 = some (.iinc 3 1, 30, 3, 0, 1) := by decide +kernel
theorem q145_30 : am_look 145 30 = some (.goto (-26), 33, 4, 0, 0) := by decide +kernel
theorem q145_33 : am_look 145 33 = some (.iload_n 2, 34, 2, 0, 0) := by decide +kernel
theorem q145_34 : am_look 145 34 = some (.ireturn, 35, 0, 0, 0) := by decide +kernel
theorem zb145 : am_zb 145 = false := by decide +kernel
theorem ml145 : am_ml 145 = 4 := by decide +kernel
theorem np145 : am_np 145 + (if am_sc 145 then 0 else 1) = 2 := by decide +kernel
theorem st145 {d : Nat} {h h1 : am_H} {r : Option am_V} (p0 : Nat) (a1 : Int) (H : am_x (am_cd d) 145 (fun r2 h2 => r2 = r ∧ h2 = h1) 0 0 [some (.inr (.inr p0)), some (.inl a1), none, none] [] h) : am_cd (d + 1) 145 [.inr (.inr p0), .inl a1] h r h1 := by
  refine ⟨⟨by rw [ml145]; simp [am_en], by rw [np145]; rfl⟩, ?_⟩
  rw [ml145]; exact H
theorem q146_0 : am_look 146 0 = some (.iconst 0, 1, 0, 0, 0) := by decide +kernel
theorem q146_1 : am_look 146 1 = some (.istore_n 2, 2, 2, 0, 0) := by decide +kernel
theorem q146_2 : am_look 146 2 = some (.iload_n 2, 3, 2, 0, 0) := by decide +kernel
theorem q146_3 : am_look 146 3 = some (.aload_n 0, 4, 0, 0, 0) := by decide +kernel
theorem q146_4 : am_look 146 4 = some (.getfield 27, 7, 384, 0, 0) := by decide +kernel
theorem q146_7 : am_look 146 7 = some (.if_icmp .ge 43, 10, 50, 0, 0) := by decide +kernel
theorem q146_10 : am_look 146 10 = some (.aload_n 0, 11, 0, 0, 0) := by decide +kernel
theorem q146_11 : am_look 146 11 = some (.iload_n 1, 12, 1, 0, 0) := by decide +kernel
theorem q146_12 : am_look 146 12 = some (.iload_n 2, 13, 2, 0, 0) := by decide +kernel
theorem q146_13 : am_look 146 13 = some (.invokevirtual 48, 16, 99, 3, 6) := by decide +kernel
theorem q146_16 : am_look 146 16 = some (.istore_n 3, 17, 3, 0, 0) := by decide +kernel
theorem q146_17 : am_look 146 17 = some (.iload_n 3, 18, 3, 0, 0) := by decide +kernel
theorem q146_18 : am_look 146 18 = some (.ifCond .le 26, 21, 44, 0, 0) := by decide +kernel
theorem q146_21 : am_look 146 21 = some (.aload_n 0, 22, 0, 0, 0) := by decide +kernel
theorem q146_22 : am_look 146 22 = some (.getfield 24, 25, 389, 5, 0) := by decide +kernel
theorem q146_25 : am_look 146 25 = some (.iload_n 2, 26, 2, 0, 0) := by decide +kernel
theorem q146_26 : am_look 146 26 = some (.aload_n 0, 27, 0, 0, 0) := by decide +kernel
theorem q146_27 : am_look 146 27 = some (.getfield 24, 30, 389, 5, 0) := by decide +kernel
theorem q146_30 : am_look 146 30 = some (.iload_n 2, 31, 2, 0, 0) := by decide +kernel
theorem q146_31 : am_look 146 31 = some (.iaload, 32, 0, 0, 0) := by decide +kernel
theorem q146_32 : am_look 146 32 = some (.aload_n 0, 33, 0, 0, 0) := by decide +kernel
theorem q146_33 : am_look 146 33 = some (.getfield 24, 36, 389, 5, 0) := by decide +kernel
theorem q146_36 : am_look 146 36 = some (.iload_n 1, 37, 1, 0, 0) := by decide +kernel
theorem q146_37 : am_look 146 37 = some (.iaload, 38, 0, 0, 0) := by decide +kernel
theorem q146_38 : am_look 146 38 = some (.iload_n 3, 39, 3, 0, 0) := by decide +kernel
theorem q146_39 : am_look 146 39 = some (.iadd, 40, 0, 0, 0) := by decide +kernel
theorem q146_40 : am_look 146 40 = some (.invokestatic 59, 43, 88, 2, 99) := by decide +kernel
theorem q146_43 : am_look 146 43 = some (.iastore, 44, 0, 0, 0) := by decide +kernel
theorem q146_44 : am_look 146 44 = some (.iinc 2 1, 47, 2, 0, 1) := by decide +kernel
theorem q146_47 : am_look 146 47 = some (.goto (-45), 50, 2, 0, 0) := by decide +kernel
theorem q146_50 : am_look 146 50 = some (.return_, 51, 0, 0, 0) := by decide +kernel
theorem zb146 : am_zb 146 = false := by decide +kernel
theorem ml146 : am_ml 146 = 4 := by decide +kernel
theorem np146 : am_np 146 + (if am_sc 146 then 0 else 1) = 2 := by decide +kernel
theorem st146 {d : Nat} {h h1 : am_H} {r : Option am_V} (p0 : Nat) (a1 : Int) (H : am_x (am_cd d) 146 (fun r2 h2 => r2 = r ∧ h2 = h1) 0 0 [some (.inr (.inr p0)), some (.inl a1), none, none] [] h) : am_cd (d + 1) 146 [.inr (.inr p0), .inl a1] h r h1 := by
  refine ⟨⟨by rw [ml146]; simp [am_en], by rw [np146]; rfl⟩, ?_⟩
  rw [ml146]; exact H
theorem q147_0 : am_look 147 0 = some (.aload_n 0, 1, 0, 0, 0) := by decide +kernel
theorem q147_1 : am_look 147 1 = some (.getfield 9, 4, 448, 0, 0) := by decide +kernel
theorem q147_4 : am_look 147 4 = some (.iload_n 1, 5, 1, 0, 0) := by decide +kernel
theorem q147_5 : am_look 147 5 = some (.iload_n 2, 6, 2, 0, 0) := by decide +kernel
theorem q147_6 : am_look 147 6 = some (.iastore, 7, 0, 0, 0) := by decide +kernel
theorem q147_7 : am_look 147 7 = some (.aload_n 0, 8, 0, 0, 0) := by decide +kernel
theorem q147_8 : am_look 147 8 = some (.getfield 13, 11, 449, 1, 0) := by decide +kernel
theorem q147_11 : am_look 147 11 = some (.iload_n 1, 12, 1, 0, 0) := by decide +kernel
theorem q147_12 : am_look 147 12 = some (.iload_n 2, 13, 2, 0, 0) := by decide +kernel
theorem q147_13 : am_look 147 13 = some (.ifCond .ne 7, 16, 20, 0, 0) := by decide +kernel
theorem q147_16 : am_look 147 16 = some (.iconst 0, 17, 0, 0, 0) := by decide +kernel
theorem q147_17 : am_look 147 17 = some (.goto 4, 20, 21, 0, 0) := by decide +kernel
theorem q147_20 : am_look 147 20 = some (.iload_n 3, 21, 3, 0, 0) := by decide +kernel
theorem q147_21 : am_look 147 21 = some (.iastore, 22, 0, 0, 0) := by decide +kernel
theorem q147_22 : am_look 147 22 = some (.aload_n 0, 23, 0, 0, 0) := by decide +kernel
theorem q147_23 : am_look 147 23 = some (.getfield 16, 26, 450, 2, 0) := by decide +kernel
theorem q147_26 : am_look 147 26 = some (.iload_n 1, 27, 1, 0, 0) := by decide +kernel
theorem q147_27 : am_look 147 27 = some (.bipush 20, 29, 0, 0, 20) := by decide +kernel
theorem q147_29 : am_look 147 29 = some (.imul, 30, 0, 0, 0) := by decide +kernel
theorem q147_30 : am_look 147 30 = some (.iload_n 1, 31, 1, 0, 0) := by decide +kernel
theorem q147_31 : am_look 147 31 = some (.iconst 1, 32, 0, 0, 1) := by decide +kernel
theorem q147_32 : am_look 147 32 = some (.iadd, 33, 0, 0, 0) := by decide +kernel
theorem q147_33 : am_look 147 33 = some (.bipush 20, 35, 0, 0, 20) := by decide +kernel
theorem q147_35 : am_look 147 35 = some (.imul, 36, 0, 0, 0) := by decide +kernel
theorem q147_36 : am_look 147 36 = some (.iconst 0, 37, 0, 0, 0) := by decide +kernel
theorem q147_37 : am_look 147 37 = some (.invokestatic 19, 40, 137, 4, 99) := by decide +kernel
theorem q147_40 : am_look 147 40 = some (.aload_n 0, 41, 0, 0, 0) := by decide +kernel
theorem q147_41 : am_look 147 41 = some (.getfield 13, 44, 449, 1, 0) := by decide +kernel
theorem q147_44 : am_look 147 44 = some (.iload_n 1, 45, 1, 0, 0) := by decide +kernel
theorem q147_45 : am_look 147 45 = some (.iaload, 46, 0, 0, 0) := by decide +kernel
theorem q147_46 : am_look 147 46 = some (.ireturn, 47, 0, 0, 0) := by decide +kernel
theorem zb147 : am_zb 147 = false := by decide +kernel
theorem ml147 : am_ml 147 = 4 := by decide +kernel
theorem np147 : am_np 147 + (if am_sc 147 then 0 else 1) = 4 := by decide +kernel
theorem st147 {d : Nat} {h h1 : am_H} {r : Option am_V} (p0 : Nat) (a1 : Int) (a2 : Int) (a3 : Int) (H : am_x (am_cd d) 147 (fun r2 h2 => r2 = r ∧ h2 = h1) 0 0 [some (.inr (.inr p0)), some (.inl a1), some (.inl a2), some (.inl a3)] [] h) : am_cd (d + 1) 147 [.inr (.inr p0), .inl a1, .inl a2, .inl a3] h r h1 := by
  refine ⟨⟨by rw [ml147]; simp [am_en], by rw [np147]; rfl⟩, ?_⟩
  rw [ml147]; exact H
theorem q148_0 : am_look 148 0 = some (.iload_n 1, 1, 1, 0, 0) := by decide +kernel
theorem q148_1 : am_look 148 1 = some (.istore_n 3, 2, 3, 0, 0) := by decide +kernel
theorem q148_2 : am_look 148 2 = some (.iconst 0, 3, 0, 0, 0) := by decide +kernel
theorem q148_3 : am_look 148 3 = some (.istore 4, 5, 4, 0, 0) := by decide +kernel
theorem q148_5 : am_look 148 5 = some (.iload 4, 7, 4, 0, 0) := by decide +kernel
theorem q148_7 : am_look 148 7 = some (.iload_n 2, 8, 2, 0, 0) := by decide +kernel
theorem q148_8 : am_look 148 8 = some (.if_icmp .ge 29, 11, 37, 0, 0) := by decide +kernel
theorem q148_11 : am_look 148 11 = some (.iload_n 3, 12, 3, 0, 0) := by decide +kernel
theorem q148_12 : am_look 148 12 = some (.aload_n 0, 13, 0, 0, 0) := by decide +kernel
theorem q148_13 : am_look 148 13 = some (.iload_n 3, 14, 3, 0, 0) := by decide +kernel
theorem q148_14 : am_look 148 14 = some (.invokevirtual 35, 17, 101, 2, 8) := by decide +kernel
theorem q148_17 : am_look 148 17 = some (.ior, 18, 0, 0, 0) := by decide +kernel
theorem q148_18 : am_look 148 18 = some (.istore 5, 20, 5, 0, 0) := by decide +kernel
theorem q148_20 : am_look 148 20 = some (.iload 5, 22, 5, 0, 0) := by decide +kernel
theorem q148_22 : am_look 148 22 = some (.iload_n 3, 23, 3, 0, 0) := by decide +kernel
theorem q148_23 : am_look 148 23 = some (.if_icmp .ne 5, 26, 28, 0, 0) := by decide +kernel
theorem q148_26 : am_look 148 26 = some (.iload_n 3, 27, 3, 0, 0) := by decide +kernel
theorem q148_27 : am_look 148 27 = some (.ireturn, 28, 0, 0, 0) := by decide +kernel
theorem q148_28 : am_look 148 28 = some (.iload 5, 30, 5, 0, 0) := by decide +kernel
theorem q148_30 : am_look 148 30 = some (.istore_n 3, 31, 3, 0, 0) := by decide +kernel
theorem q148_31 : am_look 148 31 = some (.iinc 4 1, 34, 4, 0, 1) := by decide +kernel
theorem q148_34 : am_look 148 34 = some (.goto (-29), 37, 5, 0, 0) := by decide +kernel
theorem q148_37 : am_look 148 37 = some (.iload_n 3, 38, 3, 0, 0) := by decide +kernel
theorem q148_38 : am_look 148 38 = some (.ireturn, 39, 0, 0, 0) := by decide +kernel
theorem zb148 : am_zb 148 = false := by decide +kernel
theorem ml148 : am_ml 148 = 6 := by decide +kernel
theorem np148 : am_np 148 + (if am_sc 148 then 0 else 1) = 3 := by decide +kernel
theorem st148 {d : Nat} {h h1 : am_H} {r : Option am_V} (p0 : Nat) (a1 : Int) (a2 : Int) (H : am_x (am_cd d) 148 (fun r2 h2 => r2 = r ∧ h2 = h1) 0 0 [some (.inr (.inr p0)), some (.inl a1), some (.inl a2), none, none, none] [] h) : am_cd (d + 1) 148 [.inr (.inr p0), .inl a1, .inl a2] h r h1 := by
  refine ⟨⟨by rw [ml148]; simp [am_en], by rw [np148]; rfl⟩, ?_⟩
  rw [ml148]; exact H
theorem q149_0 : am_look 149 0 = some (.iconst 0, 1, 0, 0, 0) := by decide +kernel
theorem q149_1 : am_look 149 1 = some (.istore_n 1, 2, 1, 0, 0) := by decide +kernel
theorem q149_2 : am_look 149 2 = some (.iconst 0, 3, 0, 0, 0) := by decide +kernel
theorem q149_3 : am_look 149 3 = some (.istore_n 2, 4, 2, 0, 0) := by decide +kernel
theorem q149_4 : am_look 149 4 = some (.iconst 0, 5, 0, 0, 0) := by decide +kernel
theorem q149_5 : am_look 149 5 = some (.istore_n 3, 6, 3, 0, 0) := by decide +kernel
theorem q149_6 : am_look 149 6 = some (.iload_n 3, 7, 3, 0, 0) := by decide +kernel
theorem q149_7 : am_look 149 7 = some (.aload_n 0, 8, 0, 0, 0) := by decide +kernel
theorem q149_8 : am_look 149 8 = some (.getfield 39, 11, 577, 1, 0) := by decide +kernel
theorem q149_11 : am_look 149 11 = some (.if_icmp .ge 68, 14, 79, 0, 0) := by decide +kernel
theorem q149_14 : am_look 149 14 = some (.iload_n 2, 15, 2, 0, 0) := by decide +kernel
theorem q149_15 : am_look 149 15 = some (.bipush 12, 17, 0, 0, 12) := by decide +kernel
theorem q149_17 : am_look 149 17 = some (.if_icmp .eq 16, 20, 33, 0, 0) := by decide +kernel
theorem q149_20 : am_look 149 20 = some (.iload_n 1, 21, 1, 0, 0) := by decide +kernel
theorem q149_21 : am_look 149 21 = some (.aload_n 0, 22, 0, 0, 0) := by decide +kernel
theorem q149_22 : am_look 149 22 = some (.getfield 11, 25, 578, 2, 0) := by decide +kernel
theorem q149_25 : am_look 149 25 = some (.iload_n 3, 26, 3, 0, 0) := by decide +kernel
theorem q149_26 : am_look 149 26 = some (.iaload, 27, 0, 0, 0) := by decide +kernel
theorem q149_27 : am_look 149 27 = some (.invokestatic 53, 30, 102, 2, 99) := by decide +kernel
theorem q149_30 : am_look 149 30 = some (.ifCond .ne 5, 33, 35, 0, 0) := by decide +kernel
theorem q149_33 : am_look 149 33 = some (.iload_n 3, 34, 3, 0, 0) := by decide +kernel
theorem q149_34 : am_look 149 34 = some (.ireturn, 35, 0, 0, 0) := by decide +kernel
theorem q149_35 : am_look 149 35 = some (.aload_n 0, 36, 0, 0, 0) := by decide +kernel
theorem q149_36 : am_look 149 36 = some (.getfield 11, 39, 578, 2, 0) := by decide +kernel
theorem q149_39 : am_look 149 39 = some (.iload_n 3, 40, 3, 0, 0) := by decide +kernel
theorem q149_40 : am_look 149 40 = some (.iaload, 41, 0, 0, 0) := by decide +kernel
theorem q149_41 : am_look 149 41 = some (.bipush 59, 43, 0, 0, 59) := by decide +kernel
theorem q149_43 : am_look 149 43 = some (.if_icmp .ne 7, 46, 50, 0, 0) := by decide +kernel
theorem q149_46 : am_look 149 46 = some (.iconst 0, 47, 0, 0, 0) := by decide +kernel
theorem q149_47 : am_look 149 47 = some (.goto 6, 50, 53, 0, 0) := by decide +kernel
theorem q149_50 : am_look 149 50 = some (.iload_n 1, 51, 1, 0, 0) := by decide +kernel
theorem q149_51 : am_look 149 51 = some (.iconst 1, 52, 0, 0, 1) := by decide +kernel
theorem q149_52 : am_look 149 52 = some (.iadd, 53, 0, 0, 0) := by decide +kernel
theorem q149_53 : am_look 149 53 = some (.istore_n 1, 54, 1, 0, 0) := by decide +kernel
theorem q149_54 : am_look 149 54 = some (.iload_n 2, 55, 2, 0, 0) := by decide +kernel
theorem q149_55 : am_look 149 55 = some (.aload_n 0, 56, 0, 0, 0) := by decide +kernel
theorem q149_56 : am_look 149 56 = some (.getfield 11, 59, 578, 2, 0) := by decide +kernel
theorem q149_59 : am_look 149 59 = some (.iload_n 3, 60, 3, 0, 0) := by decide +kernel
theorem q149_60 : am_look 149 60 = some (.iaload, 61, 0, 0, 0) := by decide +kernel
theorem q149_61 : am_look 149 61 = some (.bipush 59, 63, 0, 0, 59) := by decide +kernel
theorem q149_63 : am_look 149 63 = some (.if_icmp .ne 7, 66, 70, 0, 0) := by decide +kernel
theorem q149_66 : am_look 149 66 = some (.iconst 1, 67, 0, 0, 1) := by decide +kernel
theorem q149_67 : am_look 149 67 = some (.goto 4, 70, 71, 0, 0) := by decide +kernel
theorem q149_70 : am_look 149 70 = some (.iconst 0, 71, 0, 0, 0) := by decide +kernel
theorem q149_71 : am_look 149 71 = some (.iadd, 72, 0, 0, 0) := by decide +kernel
theorem q149_72 : am_look 149 72 = some (.istore_n 2, 73, 2, 0, 0) := by decide +kernel
theorem q149_73 : am_look 149 73 = some (.iinc 3 1, 76, 3, 0, 1) := by decide +kernel
theorem q149_76 : am_look 149 76 = some (.goto (-70), 79, 6, 0, 0) := by decide +kernel
theorem q149_79 : am_look 149 79 = some (.iload_n 1, 80, 1, 0, 0) := by decide +kernel
theorem q149_80 : am_look 149 80 = some (.ifCond .ne 7, 83, 87, 0, 0) := by decide +kernel
theorem q149_83 : am_look 149 83 = some (.iconst (-1), 84, 0, 0, (-1)) := by decide +kernel
theorem q149_84 : am_look 149 84 = some (.goto 7, 87, 91, 0, 0) := by decide +kernel
theorem q149_87 : am_look 149 87 = some (.aload_n 0, 88, 0, 0, 0) := by decide +kernel
theorem q149_88 : am_look 149 88 = some (.getfield 39, 91, 577, 1, 0) := by decide +kernel
theorem q149_91 : am_look 149 91 = some (.ireturn, 92, 0, 0, 0) := by decide +kernel
theorem zb149 : am_zb 149 = false := by decide +kernel
theorem ml149 : am_ml 149 = 4 := by decide +kernel
theorem np149 : am_np 149 + (if am_sc 149 then 0 else 1) = 1 := by decide +kernel
theorem st149 {d : Nat} {h h1 : am_H} {r : Option am_V} (p0 : Nat) (H : am_x (am_cd d) 149 (fun r2 h2 => r2 = r ∧ h2 = h1) 0 0 [some (.inr (.inr p0)), none, none, none] [] h) : am_cd (d + 1) 149 [.inr (.inr p0)] h r h1 := by
  refine ⟨⟨by rw [ml149]; simp [am_en], by rw [np149]; rfl⟩, ?_⟩
  rw [ml149]; exact H
theorem q150_0 : am_look 150 0 = some (.iconst 0, 1, 0, 0, 0) := by decide +kernel
theorem q150_1 : am_look 150 1 = some (.istore_n 2, 2, 2, 0, 0) := by decide +kernel
theorem q150_2 : am_look 150 2 = some (.iconst 0, 3, 0, 0, 0) := by decide +kernel
theorem q150_3 : am_look 150 3 = some (.istore_n 3, 4, 3, 0, 0) := by decide +kernel
theorem q150_4 : am_look 150 4 = some (.iload_n 3, 5, 3, 0, 0) := by decide +kernel
theorem q150_5 : am_look 150 5 = some (.iconst 4, 6, 0, 0, 4) := by decide +kernel
theorem q150_6 : am_look 150 6 = some (.iadd, 7, 0, 0, 0) := by decide +kernel
theorem q150_7 : am_look 150 7 = some (.aload_n 0, 8, 0, 0, 0) := by decide +kernel
theorem q150_8 : am_look 150 8 = some (.getfield 39, 11, 577, 1, 0) := by decide +kernel
theorem q150_11 : am_look 150 11 = some (.if_icmp .gt 159, 14, 170, 0, 0) := by decide +kernel
theorem q150_14 : am_look 150 14 = some (.iload_n 2, 15, 2, 0, 0) := by decide +kernel
theorem q150_15 : am_look 150 15 = some (.bipush 12, 17, 0, 0, 12) := by decide +kernel
theorem q150_17 : am_look 150 17 = some (.if_icmp .ge 153, 20, 170, 0, 0) := by decide +kernel
theorem q150_20 : am_look 150 20 = some (.aload_n 0, 21, 0, 0, 0) := by decide +kernel
theorem q150_21 : am_look 150 21 = some (.getfield 11, 24, 578, 2, 0) := by decide +kernel
theorem q150_24 : am_look 150 24 = some (.iload_n 3, 25, 3, 0, 0) := by decide +kernel
theorem q150_25 : am_look 150 25 = some (.iconst 3, 26, 0, 0, 3) := by decide +kernel
theorem q150_26 : am_look 150 26 = some (.iadd, 27, 0, 0, 0) := by decide +kernel
theorem q150_27 : am_look 150 27 = some (.iaload, 28, 0, 0, 0) := by decide +kernel
theorem q150_28 : am_look 150 28 = some (.bipush 47, 30, 0, 0, 47) := by decide +kernel
theorem q150_30 : am_look 150 30 = some (.if_icmp .ne 18, 33, 48, 0, 0) := by decide +kernel
theorem q150_33 : am_look 150 33 = some (.iload_n 3, 34, 3, 0, 0) := by decide +kernel
theorem q150_34 : am_look 150 34 = some (.bipush 8, 36, 0, 0, 8) := by decide +kernel
theorem q150_36 : am_look 150 36 = some (.iadd, 37, 0, 0, 0) := by decide +kernel
theorem q150_37 : am_look 150 37 = some (.aload_n 0, 38, 0, 0, 0) := by decide +kernel
theorem q150_38 : am_look 150 38 = some (.getfield 39, 41, 577, 1, 0) := by decide +kernel
theorem q150_41 : am_look 150 41 = some (.if_icmp .gt 7, 44, 48, 0, 0) := by decide +kernel
theorem q150_44 : am_look 150 44 = some (.iconst 1, 45, 0, 0, 1) := by decide +kernel
theorem q150_45 : am_look 150 45 = some (.goto 4, 48, 49, 0, 0) := by decide +kernel
theorem q150_48 : am_look 150 48 = some (.iconst 0, 49, 0, 0, 0) := by decide +kernel
theorem q150_49 : am_look 150 49 = some (.istore 4, 51, 4, 0, 0) := by decide +kernel
theorem q150_51 : am_look 150 51 = some (.iload_n 1, 52, 1, 0, 0) := by decide +kernel
theorem q150_52 : am_look 150 52 = some (.bipush 12, 54, 0, 0, 12) := by decide +kernel
theorem q150_54 : am_look 150 54 = some (.imul, 55, 0, 0, 0) := by decide +kernel
theorem q150_55 : am_look 150 55 = some (.iload_n 2, 56, 2, 0, 0) := by decide +kernel
theorem q150_56 : am_look 150 56 = some (.iadd, 57, 0, 0, 0) := by decide +kernel
theorem q150_57 : am_look 150 57 = some (.istore 5, 59, 5, 0, 0) := by decide +kernel
theorem q150_59 : am_look 150 59 = some (.aload_n 0, 60, 0, 0, 0) := by decide +kernel
theorem q150_60 : am_look 150 60 = some (.getfield 18, 63, 580, 4, 0) := by decide +kernel
theorem q150_63 : am_look 150 63 = some (.iload 5, 65, 5, 0, 0) := by decide +kernel
theorem q150_65 : am_look 150 65 = some (.aload_n 0, 66, 0, 0, 0) := by decide +kernel
theorem q150_66 : am_look 150 66 = some (.getfield 11, 69, 578, 2, 0) := by decide +kernel
theorem q150_69 : am_look 150 69 = some (.iload_n 3, 70, 3, 0, 0) := by decide +kernel
theorem q150_70 : am_look 150 70 = some (.iaload, 71, 0, 0, 0) := by decide +kernel
theorem q150_71 : am_look 150 71 = some (.invokestatic 61, 74, 103, 1, 99) := by decide +kernel
theorem q150_74 : am_look 150 74 = some (.iastore, 75, 0, 0, 0) := by decide +kernel
theorem q150_75 : am_look 150 75 = some (.aload_n 0, 76, 0, 0, 0) := by decide +kernel
theorem q150_76 : am_look 150 76 = some (.getfield 21, 79, 581, 5, 0) := by decide +kernel
theorem q150_79 : am_look 150 79 = some (.iload 5, 81, 5, 0, 0) := by decide +kernel
theorem q150_81 : am_look 150 81 = some (.aload_n 0, 82, 0, 0, 0) := by decide +kernel
theorem q150_82 : am_look 150 82 = some (.getfield 11, 85, 578, 2, 0) := by decide +kernel
theorem q150_85 : am_look 150 85 = some (.iload_n 3, 86, 3, 0, 0) := by decide +kernel
theorem q150_86 : am_look 150 86 = some (.iconst 2, 87, 0, 0, 2) := by decide +kernel
theorem q150_87 : am_look 150 87 = some (.iadd, 88, 0, 0, 0) := by decide +kernel
theorem q150_88 : am_look 150 88 = some (.iaload, 89, 0, 0, 0) := by decide +kernel
theorem q150_89 : am_look 150 89 = some (.invokestatic 61, 92, 103, 1, 99) := by decide +kernel
theorem q150_92 : am_look 150 92 = some (.iastore, 93, 0, 0, 0) := by decide +kernel
theorem q150_93 : am_look 150 93 = some (.aload_n 0, 94, 0, 0, 0) := by decide +kernel
theorem q150_94 : am_look 150 94 = some (.getfield 24, 97, 582, 6, 0) := by decide +kernel
theorem q150_97 : am_look 150 97 = some (.iload 5, 99, 5, 0, 0) := by decide +kernel
theorem q150_99 : am_look 150 99 = some (.iload 4, 101, 4, 0, 0) := by decide +kernel
theorem q150_101 : am_look 150 101 = some (.ifCond .eq 17, 104, 118, 0, 0) := by decide +kernel
theorem q150_104 : am_look 150 104 = some (.aload_n 0, 105, 0, 0, 0) := by decide +kernel
theorem q150_105 : am_look 150 105 = some (.getfield 11, 108, 578, 2, 0) := by decide +kernel
theorem q150_108 : am_look 150 108 = some (.iload_n 3, 109, 3, 0, 0) := by decide +kernel
theorem q150_109 : am_look 150 109 = some (.iconst 4, 110, 0, 0, 4) := by decide +kernel
theorem q150_110 : am_look 150 110 = some (.iadd, 111, 0, 0, 0) := by decide +kernel
theorem q150_111 : am_look 150 111 = some (.iaload, 112, 0, 0, 0) := by decide +kernel
theorem q150_112 : am_look 150 112 = some (.invokestatic 61, 115, 103, 1, 99) := by decide +kernel
theorem q150_115 : am_look 150 115 = some (.goto 5, 118, 120, 0, 0) := by decide +kernel
theorem q150_118 : am_look 150 118 = some (.bipush 27, 120, 0, 0, 27) := by decide +kernel
theorem q150_120 : am_look 150 120 = some (.iastore, 121, 0, 0, 0) := by decide +kernel
theorem q150_121 : am_look 150 121 = some (.aload_n 0, 122, 0, 0, 0) := by decide +kernel
theorem q150_122 : am_look 150 122 = some (.getfield 27, 125, 583, 7, 0) := by decide +kernel
theorem q150_125 : am_look 150 125 = some (.iload 5, 127, 5, 0, 0) := by decide +kernel
theorem q150_127 : am_look 150 127 = some (.iload 4, 129, 4, 0, 0) := by decide +kernel
theorem q150_129 : am_look 150 129 = some (.ifCond .eq 18, 132, 147, 0, 0) := by decide +kernel
theorem q150_132 : am_look 150 132 = some (.aload_n 0, 133, 0, 0, 0) := by decide +kernel
theorem q150_133 : am_look 150 133 = some (.getfield 11, 136, 578, 2, 0) := by decide +kernel
theorem q150_136 : am_look 150 136 = some (.iload_n 3, 137, 3, 0, 0) := by decide +kernel
theorem q150_137 : am_look 150 137 = some (.bipush 6, 139, 0, 0, 6) := by decide +kernel
theorem q150_139 : am_look 150 139 = some (.iadd, 140, 0, 0, 0) := by decide +kernel
theorem q150_140 : am_look 150 140 = some (.iaload, 141, 0, 0, 0) := by decide +kernel
theorem q150_141 : am_look 150 141 = some (.invokestatic 61, 144, 103, 1, 99) := by decide +kernel
theorem q150_144 : am_look 150 144 = some (.goto 5, 147, 149, 0, 0) := by decide +kernel
theorem q150_147 : am_look 150 147 = some (.bipush 27, 149, 0, 0, 27) := by decide +kernel
theorem q150_149 : am_look 150 149 = some (.iastore, 150, 0, 0, 0) := by decide +kernel
theorem q150_150 : am_look 150 150 = some (.iload_n 3, 151, 3, 0, 0) := by decide +kernel
theorem q150_151 : am_look 150 151 = some (.iload 4, 153, 4, 0, 0) := by decide +kernel
theorem q150_153 : am_look 150 153 = some (.ifCond .eq 8, 156, 161, 0, 0) := by decide +kernel
theorem q150_156 : am_look 150 156 = some (.bipush 8, 158, 0, 0, 8) := by decide +kernel
theorem q150_158 : am_look 150 158 = some (.goto 4, 161, 162, 0, 0) := by decide +kernel
theorem q150_161 : am_look 150 161 = some (.iconst 4, 162, 0, 0, 4) := by decide +kernel
theorem q150_162 : am_look 150 162 = some (.iadd, 163, 0, 0, 0) := by decide +kernel
theorem q150_163 : am_look 150 163 = some (.istore_n 3, 164, 3, 0, 0) := by decide +kernel
theorem q150_164 : am_look 150 164 = some (.iinc 2 1, 167, 2, 0, 1) := by decide +kernel
theorem q150_167 : am_look 150 167 = some (.goto (-163), 170, 4, 0, 0) := by decide +kernel
theorem q150_170 : am_look 150 170 = some (.aload_n 0, 171, 0, 0, 0) := by decide +kernel
theorem q150_171 : am_look 150 171 = some (.getfield 15, 174, 579, 3, 0) := by decide +kernel
theorem q150_174 : am_look 150 174 = some (.iload_n 1, 175, 1, 0, 0) := by decide +kernel
theorem q150_175 : am_look 150 175 = some (.iload_n 2, 176, 2, 0, 0) := by decide +kernel
theorem q150_176 : am_look 150 176 = some (.iastore, 177, 0, 0, 0) := by decide +kernel
theorem q150_177 : am_look 150 177 = some (.return_, 178, 0, 0, 0) := by decide +kernel
theorem zb150 : am_zb 150 = false := by decide +kernel
theorem ml150 : am_ml 150 = 6 := by decide +kernel
theorem np150 : am_np 150 + (if am_sc 150 then 0 else 1) = 2 := by decide +kernel
theorem st150 {d : Nat} {h h1 : am_H} {r : Option am_V} (p0 : Nat) (a1 : Int) (H : am_x (am_cd d) 150 (fun r2 h2 => r2 = r ∧ h2 = h1) 0 0 [some (.inr (.inr p0)), some (.inl a1), none, none, none, none] [] h) : am_cd (d + 1) 150 [.inr (.inr p0), .inl a1] h r h1 := by
  refine ⟨⟨by rw [ml150]; simp [am_en], by rw [np150]; rfl⟩, ?_⟩
  rw [ml150]; exact H
theorem q151_0 : am_look 151 0 = some (.aload_n 0, 1, 0, 0, 0) := by decide +kernel
theorem q151_1 : am_look 151 1 = some (.aload_n 0, 2, 0, 0, 0) := by decide +kernel
theorem q151_2 : am_look 151 2 = some (.getfield 35, 5, 576, 0, 0) := by decide +kernel
theorem q151_5 : am_look 151 5 = some (.iload_n 1, 6, 1, 0, 0) := by decide +kernel
theorem q151_6 : am_look 151 6 = some (.invokevirtual 65, 9, 25, 2, 4) := by decide +kernel
theorem q151_9 : am_look 151 9 = some (.putfield 68, 12, 584, 8, 0) := by decide +kernel
theorem q151_12 : am_look 151 12 = some (.iconst 0, 13, 0, 0, 0) := by decide +kernel
theorem q151_13 : am_look 151 13 = some (.istore_n 3, 14, 3, 0, 0) := by decide +kernel
theorem q151_14 : am_look 151 14 = some (.iload_n 3, 15, 3, 0, 0) := by decide +kernel
theorem q151_15 : am_look 151 15 = some (.aload_n 0, 16, 0, 0, 0) := by decide +kernel
theorem q151_16 : am_look 151 16 = some (.getfield 68, 19, 584, 8, 0) := by decide +kernel
theorem q151_19 : am_look 151 19 = some (.if_icmp .ge 24, 22, 43, 0, 0) := by decide +kernel
theorem q151_22 : am_look 151 22 = some (.aload_n 0, 23, 0, 0, 0) := by decide +kernel
theorem q151_23 : am_look 151 23 = some (.getfield 32, 26, 585, 9, 0) := by decide +kernel
theorem q151_26 : am_look 151 26 = some (.iload_n 3, 27, 3, 0, 0) := by decide +kernel
theorem q151_27 : am_look 151 27 = some (.aload_n 0, 28, 0, 0, 0) := by decide +kernel
theorem q151_28 : am_look 151 28 = some (.getfield 35, 31, 576, 0, 0) := by decide +kernel
theorem q151_31 : am_look 151 31 = some (.iload_n 1, 32, 1, 0, 0) := by decide +kernel
theorem q151_32 : am_look 151 32 = some (.iload_n 3, 33, 3, 0, 0) := by decide +kernel
theorem q151_33 : am_look 151 33 = some (.invokevirtual 71, 36, 26, 3, 4) := by decide +kernel
theorem q151_36 : am_look 151 36 = some (.iastore, 37, 0, 0, 0) := by decide +kernel
theorem q151_37 : am_look 151 37 = some (.iinc 3 1, 40, 3, 0, 1) := by decide +kernel
theorem q151_40 : am_look 151 40 = some (.goto (-26), 43, 14, 0, 0) := by decide +kernel
theorem q151_43 : am_look 151 43 = some (.iconst 0, 44, 0, 0, 0) := by decide +kernel
theorem q151_44 : am_look 151 44 = some (.istore_n 3, 45, 3, 0, 0) := by decide +kernel
theorem q151_45 : am_look 151 45 = some (.iload_n 3, 46, 3, 0, 0) := by decide +kernel
theorem q151_46 : am_look 151 46 = some (.aload_n 0, 47, 0, 0, 0) := by decide +kernel
theorem q151_47 : am_look 151 47 = some (.getfield 15, 50, 579, 3, 0) := by decide +kernel
theorem q151_50 : am_look 151 50 = some (.iload_n 2, 51, 2, 0, 0) := by decide +kernel
theorem q151_51 : am_look 151 51 = some (.iaload, 52, 0, 0, 0) := by decide +kernel
theorem q151_52 : am_look 151 52 = some (.if_icmp .ge 19, 55, 71, 0, 0) := by decide +kernel
theorem q151_55 : am_look 151 55 = some (.aload_n 0, 56, 0, 0, 0) := by decide +kernel
theorem q151_56 : am_look 151 56 = some (.iload_n 2, 57, 2, 0, 0) := by decide +kernel
theorem q151_57 : am_look 151 57 = some (.bipush 12, 59, 0, 0, 12) := by decide +kernel
theorem q151_59 : am_look 151 59 = some (.imul, 60, 0, 0, 0) := by decide +kernel
theorem q151_60 : am_look 151 60 = some (.iload_n 3, 61, 3, 0, 0) := by decide +kernel
theorem q151_61 : am_look 151 61 = some (.iadd, 62, 0, 0, 0) := by decide +kernel
theorem q151_62 : am_look 151 62 = some (.invokevirtual 75, 65, 104, 2, 9) := by decide +kernel
theorem q151_65 : am_look 151 65 = some (.iinc 3 1, 68, 3, 0, 1) := by decide +kernel
theorem q151_68 : am_look 151 68 = some (.goto (-23), 71, 45, 0, 0) := by decide +kernel
theorem q151_71 : am_look 151 71 = some (.aload_n 0, 72, 0, 0, 0) := by decide +kernel
theorem q151_72 : am_look 151 72 = some (.getfield 68, 75, 584, 8, 0) := by decide +kernel
theorem q151_75 : am_look 151 75 = some (.ireturn, 76, 0, 0, 0) := by decide +kernel
theorem zb151 : am_zb 151 = false := by decide +kernel
theorem ml151 : am_ml 151 = 4 := by decide +kernel
theorem np151 : am_np 151 + (if am_sc 151 then 0 else 1) = 3 := by decide +kernel
theorem st151 {d : Nat} {h h1 : am_H} {r : Option am_V} (p0 : Nat) (a1 : Int) (a2 : Int) (H : am_x (am_cd d) 151 (fun r2 h2 => r2 = r ∧ h2 = h1) 0 0 [some (.inr (.inr p0)), some (.inl a1), some (.inl a2), none] [] h) : am_cd (d + 1) 151 [.inr (.inr p0), .inl a1, .inl a2] h r h1 := by
  refine ⟨⟨by rw [ml151]; simp [am_en], by rw [np151]; rfl⟩, ?_⟩
  rw [ml151]; exact H
theorem q152_0 : am_look 152 0 = some (.aload_n 0, 1, 0, 0, 0) := by decide +kernel
theorem q152_1 : am_look 152 1 = some (.iload_n 1, 2, 1, 0, 0) := by decide +kernel
theorem q152_2 : am_look 152 2 = some (.iload_n 2, 3, 2, 0, 0) := by decide +kernel
theorem q152_3 : am_look 152 3 = some (.invokevirtual 60, 6, 105, 3, 10) := by decide +kernel
theorem q152_6 : am_look 152 6 = some (.istore_n 3, 7, 3, 0, 0) := by decide +kernel
theorem q152_7 : am_look 152 7 = some (.iload_n 3, 8, 3, 0, 0) := by decide +kernel
theorem q152_8 : am_look 152 8 = some (.iconst (-1), 9, 0, 0, (-1)) := by decide +kernel
theorem q152_9 : am_look 152 9 = some (.if_icmp .ne 20, 12, 29, 0, 0) := by decide +kernel
theorem q152_12 : am_look 152 12 = some (.aload_n 0, 13, 0, 0, 0) := by decide +kernel
theorem q152_13 : am_look 152 13 = some (.getfield 15, 16, 643, 3, 0) := by decide +kernel
theorem q152_16 : am_look 152 16 = some (.iload_n 2, 17, 2, 0, 0) := by decide +kernel
theorem q152_17 : am_look 152 17 = some (.bipush 8, 19, 0, 0, 8) := by decide +kernel
theorem q152_19 : am_look 152 19 = some (.imul, 20, 0, 0, 0) := by decide +kernel
theorem q152_20 : am_look 152 20 = some (.aload_n 0, 21, 0, 0, 0) := by decide +kernel
theorem q152_21 : am_look 152 21 = some (.getfield 36, 24, 641, 1, 0) := by decide +kernel
theorem q152_24 : am_look 152 24 = some (.iadd, 25, 0, 0, 0) := by decide +kernel
theorem q152_25 : am_look 152 25 = some (.iaload, 26, 0, 0, 0) := by decide +kernel
theorem q152_26 : am_look 152 26 = some (.goto 10, 29, 36, 0, 0) := by decide +kernel
theorem q152_29 : am_look 152 29 = some (.aload_n 0, 30, 0, 0, 0) := by decide +kernel
theorem q152_30 : am_look 152 30 = some (.iload_n 1, 31, 1, 0, 0) := by decide +kernel
theorem q152_31 : am_look 152 31 = some (.iload_n 2, 32, 2, 0, 0) := by decide +kernel
theorem q152_32 : am_look 152 32 = some (.iload_n 3, 33, 3, 0, 0) := by decide +kernel
theorem q152_33 : am_look 152 33 = some (.invokevirtual 63, 36, 69, 4, 10) := by decide +kernel
theorem q152_36 : am_look 152 36 = some (.ireturn, 37, 0, 0, 0) := by decide +kernel
theorem zb152 : am_zb 152 = false := by decide +kernel
theorem ml152 : am_ml 152 = 4 := by decide +kernel
theorem np152 : am_np 152 + (if am_sc 152 then 0 else 1) = 3 := by decide +kernel
theorem st152 {d : Nat} {h h1 : am_H} {r : Option am_V} (p0 : Nat) (a1 : Int) (a2 : Int) (H : am_x (am_cd d) 152 (fun r2 h2 => r2 = r ∧ h2 = h1) 0 0 [some (.inr (.inr p0)), some (.inl a1), some (.inl a2), none] [] h) : am_cd (d + 1) 152 [.inr (.inr p0), .inl a1, .inl a2] h r h1 := by
  refine ⟨⟨by rw [ml152]; simp [am_en], by rw [np152]; rfl⟩, ?_⟩
  rw [ml152]; exact H
theorem q153_0 : am_look 153 0 = some (.iconst 0, 1, 0, 0, 0) := by decide +kernel
theorem q153_1 : am_look 153 1 = some (.istore_n 1, 2, 1, 0, 0) := by decide +kernel
theorem q153_2 : am_look 153 2 = some (.aload_n 0, 3, 0, 0, 0) := by decide +kernel
theorem q153_3 : am_look 153 3 = some (.getfield 36, 6, 641, 1, 0) := by decide +kernel
theorem q153_6 : am_look 153 6 = some (.istore_n 2, 7, 2, 0, 0) := by decide +kernel
theorem q153_7 : am_look 153 7 = some (.iconst 0, 8, 0, 0, 0) := by decide +kernel
theorem q153_8 : am_look 153 8 = some (.istore_n 3, 9, 3, 0, 0) := by decide +kernel
theorem q153_9 : am_look 153 9 = some (.iload_n 3, 10, 3, 0, 0) := by decide +kernel
theorem q153_10 : am_look 153 10 = some (.aload_n 0, 11, 0, 0, 0) := by decide +kernel
theorem q153_11 : am_look 153 11 = some (.getfield 36, 14, 641, 1, 0) := by decide +kernel
theorem q153_14 : am_look 153 14 = some (.if_icmp .ge 40, 17, 54, 0, 0) := by decide +kernel
theorem q153_17 : am_look 153 17 = some (.aload_n 0, 18, 0, 0, 0) := by decide +kernel
theorem q153_18 : am_look 153 18 = some (.iload_n 1, 19, 1, 0, 0) := by decide +kernel
theorem q153_19 : am_look 153 19 = some (.iload_n 2, 20, 2, 0, 0) := by decide +kernel
theorem q153_20 : am_look 153 20 = some (.invokevirtual 60, 23, 105, 3, 10) := by decide +kernel
theorem q153_23 : am_look 153 23 = some (.istore_n 2, 24, 2, 0, 0) := by decide +kernel
theorem q153_24 : am_look 153 24 = some (.iload_n 2, 25, 2, 0, 0) := by decide +kernel
theorem q153_25 : am_look 153 25 = some (.iconst (-1), 26, 0, 0, (-1)) := by decide +kernel
theorem q153_26 : am_look 153 26 = some (.if_icmp .ne 4, 29, 30, 0, 0) := by decide +kernel
theorem q153_29 : am_look 153 29 = some (.return_, 30, 0, 0, 0) := by decide +kernel
theorem q153_30 : am_look 153 30 = some (.iload_n 1, 31, 1, 0, 0) := by decide +kernel
theorem q153_31 : am_look 153 31 = some (.iconst 1, 32, 0, 0, 1) := by decide +kernel
theorem q153_32 : am_look 153 32 = some (.iload_n 2, 33, 2, 0, 0) := by decide +kernel
theorem q153_33 : am_look 153 33 = some (.ishl, 34, 0, 0, 0) := by decide +kernel
theorem q153_34 : am_look 153 34 = some (.ior, 35, 0, 0, 0) := by decide +kernel
theorem q153_35 : am_look 153 35 = some (.istore_n 1, 36, 1, 0, 0) := by decide +kernel
theorem q153_36 : am_look 153 36 = some (.aload_n 0, 37, 0, 0, 0) := by decide +kernel
theorem q153_37 : am_look 153 37 = some (.getfield 21, 40, 645, 5, 0) := by decide +kernel
theorem q153_40 : am_look 153 40 = some (.iload_n 3, 41, 3, 0, 0) := by decide +kernel
theorem q153_41 : am_look 153 41 = some (.aload_n 0, 42, 0, 0, 0) := by decide +kernel
theorem q153_42 : am_look 153 42 = some (.getfield 11, 45, 642, 2, 0) := by decide +kernel
theorem q153_45 : am_look 153 45 = some (.iload_n 2, 46, 2, 0, 0) := by decide +kernel
theorem q153_46 : am_look 153 46 = some (.iaload, 47, 0, 0, 0) := by decide +kernel
theorem q153_47 : am_look 153 47 = some (.iastore, 48, 0, 0, 0) := by decide +kernel
theorem q153_48 : am_look 153 48 = some (.iinc 3 1, 51, 3, 0, 1) := by decide +kernel
theorem q153_51 : am_look 153 51 = some (.goto (-42), 54, 9, 0, 0) := by decide +kernel
theorem q153_54 : am_look 153 54 = some (.return_, 55, 0, 0, 0) := by decide +kernel
theorem zb153 : am_zb 153 = false := by decide +kernel
theorem ml153 : am_ml 153 = 4 := by decide +kernel
theorem np153 : am_np 153 + (if am_sc 153 then 0 else 1) = 1 := by decide +kernel
theorem st153 {d : Nat} {h h1 : am_H} {r : Option am_V} (p0 : Nat) (H : am_x (am_cd d) 153 (fun r2 h2 => r2 = r ∧ h2 = h1) 0 0 [some (.inr (.inr p0)), none, none, none] [] h) : am_cd (d + 1) 153 [.inr (.inr p0)] h r h1 := by
  refine ⟨⟨by rw [ml153]; simp [am_en], by rw [np153]; rfl⟩, ?_⟩
  rw [ml153]; exact H
theorem q154_0 : am_look 154 0 = some (.iload_n 1, 1, 1, 0, 0) := by decide +kernel
theorem q154_1 : am_look 154 1 = some (.ifCond .lt 22, 4, 23, 0, 0) := by decide +kernel
theorem q154_4 : am_look 154 4 = some (.iload_n 1, 5, 1, 0, 0) := by decide +kernel
theorem q154_5 : am_look 154 5 = some (.sipush 9999, 8, 0, 0, 9999) := by decide +kernel
theorem q154_8 : am_look 154 8 = some (.if_icmp .gt 15, 11, 23, 0, 0) := by decide +kernel
theorem q154_11 : am_look 154 11 = some (.iload_n 2, 12, 2, 0, 0) := by decide +kernel
theorem q154_12 : am_look 154 12 = some (.iconst 1, 13, 0, 0, 1) := by decide +kernel
theorem q154_13 : am_look 154 13 = some (.if_icmp .lt 10, 16, 23, 0, 0) := by decide +kernel
theorem q154_16 : am_look 154 16 = some (.iload_n 2, 17, 2, 0, 0) := by decide +kernel
theorem q154_17 : am_look 154 17 = some (.sipush 999, 20, 0, 0, 999) := by decide +kernel
theorem q154_20 : am_look 154 20 = some (.if_icmp .le 10, 23, 30, 0, 0) := by decide +kernel
theorem q154_23 : am_look 154 23 = some (.aload_n 0, 24, 0, 0, 0) := by decide +kernel
theorem q154_24 : am_look 154 24 = some (.ldc 100, 26, 0, 0, (-100001)) := by decide +kernel
theorem q154_26 : am_look 154 26 = some (.invokevirtual 101, 29, 70, 2, 11) := by decide +kernel
theorem q154_29 : am_look 154 29 = some (.ireturn, 30, 0, 0, 0) := by decide +kernel
theorem q154_30 : am_look 154 30 = some (.aload_n 0, 31, 0, 0, 0) := by decide +kernel
theorem q154_31 : am_look 154 31 = some (.getfield 10, 34, 704, 0, 0) := by decide +kernel
theorem q154_34 : am_look 154 34 = some (.invokevirtual 105, 37, 36, 1, 6) := by decide +kernel
theorem q154_37 : am_look 154 37 = some (.bipush 12, 39, 0, 0, 12) := by decide +kernel
theorem q154_39 : am_look 154 39 = some (.if_icmp .lt 10, 42, 49, 0, 0) := by decide +kernel
theorem q154_42 : am_look 154 42 = some (.aload_n 0, 43, 0, 0, 0) := by decide +kernel
theorem q154_43 : am_look 154 43 = some (.ldc 109, 45, 0, 0, (-100005)) := by decide +kernel
theorem q154_45 : am_look 154 45 = some (.invokevirtual 101, 48, 70, 2, 11) := by decide +kernel
theorem q154_48 : am_look 154 48 = some (.ireturn, 49, 0, 0, 0) := by decide +kernel
theorem q154_49 : am_look 154 49 = some (.aload_n 0, 50, 0, 0, 0) := by decide +kernel
theorem q154_50 : am_look 154 50 = some (.getfield 92, 53, 714, 10, 0) := by decide +kernel
theorem q154_53 : am_look 154 53 = some (.iconst 0, 54, 0, 0, 0) := by decide +kernel
theorem q154_54 : am_look 154 54 = some (.iconst 0, 55, 0, 0, 0) := by decide +kernel
theorem q154_55 : am_look 154 55 = some (.iconst 0, 56, 0, 0, 0) := by decide +kernel
theorem q154_56 : am_look 154 56 = some (.invokevirtual 110, 59, 97, 4, 5) := by decide +kernel
theorem q154_59 : am_look 154 59 = some (.aload_n 0, 60, 0, 0, 0) := by decide +kernel
theorem q154_60 : am_look 154 60 = some (.getfield 10, 63, 704, 0, 0) := by decide +kernel
theorem q154_63 : am_look 154 63 = some (.iload_n 1, 64, 1, 0, 0) := by decide +kernel
theorem q154_64 : am_look 154 64 = some (.iload_n 2, 65, 2, 0, 0) := by decide +kernel
theorem q154_65 : am_look 154 65 = some (.invokevirtual 114, 68, 39, 3, 6) := by decide +kernel
theorem q154_68 : am_look 154 68 = some (.ireturn, 69, 0, 0, 0) := by decide +kernel
theorem zb154 : am_zb 154 = false := by decide +kernel
theorem ml154 : am_ml 154 = 3 := by decide +kernel
theorem np154 : am_np 154 + (if am_sc 154 then 0 else 1) = 3 := by decide +kernel
theorem st154 {d : Nat} {h h1 : am_H} {r : Option am_V} (p0 : Nat) (a1 : Int) (a2 : Int) (H : am_x (am_cd d) 154 (fun r2 h2 => r2 = r ∧ h2 = h1) 0 0 [some (.inr (.inr p0)), some (.inl a1), some (.inl a2)] [] h) : am_cd (d + 1) 154 [.inr (.inr p0), .inl a1, .inl a2] h r h1 := by
  refine ⟨⟨by rw [ml154]; simp [am_en], by rw [np154]; rfl⟩, ?_⟩
  rw [ml154]; exact H
theorem q155_0 : am_look 155 0 = some (.aload_n 0, 1, 0, 0, 0) := by decide +kernel
theorem q155_1 : am_look 155 1 = some (.getfield 10, 4, 704, 0, 0) := by decide +kernel
theorem q155_4 : am_look 155 4 = some (.iload_n 1, 5, 1, 0, 0) := by decide +kernel
theorem q155_5 : am_look 155 5 = some (.invokevirtual 118, 8, 37, 2, 6) := by decide +kernel
theorem q155_8 : am_look 155 8 = some (.ifCond .eq 24, 11, 32, 0, 0) := by decide +kernel
theorem q155_11 : am_look 155 11 = some (.aload_n 0, 12, 0, 0, 0) := by decide +kernel
theorem q155_12 : am_look 155 12 = some (.getfield 10, 15, 704, 0, 0) := by decide +kernel
theorem q155_15 : am_look 155 15 = some (.iload_n 2, 16, 2, 0, 0) := by decide +kernel
theorem q155_16 : am_look 155 16 = some (.invokevirtual 118, 19, 37, 2, 6) := by decide +kernel
theorem q155_19 : am_look 155 19 = some (.ifCond .eq 13, 22, 32, 0, 0) := by decide +kernel
theorem q155_22 : am_look 155 22 = some (.iload_n 3, 23, 3, 0, 0) := by decide +kernel
theorem q155_23 : am_look 155 23 = some (.ifCond .lt 9, 26, 32, 0, 0) := by decide +kernel
theorem q155_26 : am_look 155 26 = some (.iload_n 3, 27, 3, 0, 0) := by decide +kernel
theorem q155_27 : am_look 155 27 = some (.bipush 99, 29, 0, 0, 99) := by decide +kernel
theorem q155_29 : am_look 155 29 = some (.if_icmp .le 10, 32, 39, 0, 0) := by decide +kernel
theorem q155_32 : am_look 155 32 = some (.aload_n 0, 33, 0, 0, 0) := by decide +kernel
theorem q155_33 : am_look 155 33 = some (.ldc 100, 35, 0, 0, (-100001)) := by decide +kernel
theorem q155_35 : am_look 155 35 = some (.invokevirtual 101, 38, 70, 2, 11) := by decide +kernel
theorem q155_38 : am_look 155 38 = some (.ireturn, 39, 0, 0, 0) := by decide +kernel
theorem q155_39 : am_look 155 39 = some (.iload_n 1, 40, 1, 0, 0) := by decide +kernel
theorem q155_40 : am_look 155 40 = some (.iload_n 2, 41, 2, 0, 0) := by decide +kernel
theorem q155_41 : am_look 155 41 = some (.if_icmp .ne 10, 44, 51, 0, 0) := by decide +kernel
theorem q155_44 : am_look 155 44 = some (.aload_n 0, 45, 0, 0, 0) := by decide +kernel
theorem q155_45 : am_look 155 45 = some (.ldc 122, 47, 0, 0, (-100003)) := by decide +kernel
theorem q155_47 : am_look 155 47 = some (.invokevirtual 101, 50, 70, 2, 11) := by decide +kernel
theorem q155_50 : am_look 155 50 = some (.ireturn, 51, 0, 0, 0) := by decide +kernel
theorem q155_51 : am_look 155 51 = some (.aload_n 0, 52, 0, 0, 0) := by decide +kernel
theorem q155_52 : am_look 155 52 = some (.getfield 10, 55, 704, 0, 0) := by decide +kernel
theorem q155_55 : am_look 155 55 = some (.iload_n 1, 56, 1, 0, 0) := by decide +kernel
theorem q155_56 : am_look 155 56 = some (.iload_n 2, 57, 2, 0, 0) := by decide +kernel
theorem q155_57 : am_look 155 57 = some (.invokevirtual 123, 60, 99, 3, 6) := by decide +kernel
theorem q155_60 : am_look 155 60 = some (.istore 4, 62, 4, 0, 0) := by decide +kernel
theorem q155_62 : am_look 155 62 = some (.aload_n 0, 63, 0, 0, 0) := by decide +kernel
theorem q155_63 : am_look 155 63 = some (.getfield 92, 66, 714, 10, 0) := by decide +kernel
theorem q155_66 : am_look 155 66 = some (.iconst 1, 67, 0, 0, 1) := by decide +kernel
theorem q155_67 : am_look 155 67 = some (.aload_n 0, 68, 0, 0, 0) := by decide +kernel
theorem q155_68 : am_look 155 68 = some (.getfield 10, 71, 704, 0, 0) := by decide +kernel
theorem q155_71 : am_look 155 71 = some (.iload_n 1, 72, 1, 0, 0) := by decide +kernel
theorem q155_72 : am_look 155 72 = some (.iload_n 2, 73, 2, 0, 0) := by decide +kernel
theorem q155_73 : am_look 155 73 = some (.invokevirtual 126, 76, 45, 3, 6) := by decide +kernel
theorem q155_76 : am_look 155 76 = some (.iload 4, 78, 4, 0, 0) := by decide +kernel
theorem q155_78 : am_look 155 78 = some (.invokevirtual 110, 81, 97, 4, 5) := by decide +kernel
theorem q155_81 : am_look 155 81 = some (.aload_n 0, 82, 0, 0, 0) := by decide +kernel
theorem q155_82 : am_look 155 82 = some (.getfield 10, 85, 704, 0, 0) := by decide +kernel
theorem q155_85 : am_look 155 85 = some (.iload_n 1, 86, 1, 0, 0) := by decide +kernel
theorem q155_86 : am_look 155 86 = some (.iload_n 2, 87, 2, 0, 0) := by decide +kernel
theorem q155_87 : am_look 155 87 = some (.iload_n 3, 88, 3, 0, 0) := by decide +kernel
theorem q155_88 : am_look 155 88 = some (.invokevirtual 129, 91, 100, 4, 6) := by decide +kernel
theorem q155_91 : am_look 155 91 = some (.iload 4, 93, 4, 0, 0) := by decide +kernel
theorem q155_93 : am_look 155 93 = some (.ireturn, 94, 0, 0, 0) := by decide +kernel
theorem zb155 : am_zb 155 = false := by decide +kernel
theorem ml155 : am_ml 155 = 5 := by decide +kernel
theorem np155 : am_np 155 + (if am_sc 155 then 0 else 1) = 4 := by decide +kernel
theorem st155 {d : Nat} {h h1 : am_H} {r : Option am_V} (p0 : Nat) (a1 : Int) (a2 : Int) (a3 : Int) (H : am_x (am_cd d) 155 (fun r2 h2 => r2 = r ∧ h2 = h1) 0 0 [some (.inr (.inr p0)), some (.inl a1), some (.inl a2), some (.inl a3), none] [] h) : am_cd (d + 1) 155 [.inr (.inr p0), .inl a1, .inl a2, .inl a3] h r h1 := by
  refine ⟨⟨by rw [ml155]; simp [am_en], by rw [np155]; rfl⟩, ?_⟩
  rw [ml155]; exact H
theorem q156_0 : am_look 156 0 = some (.iload_n 1, 1, 1, 0, 0) := by decide +kernel
theorem q156_1 : am_look 156 1 = some (.invokestatic 143, 4, 71, 1, 99) := by decide +kernel
theorem q156_4 : am_look 156 4 = some (.ifCond .eq 11, 7, 15, 0, 0) := by decide +kernel
theorem q156_7 : am_look 156 7 = some (.iload_n 1, 8, 1, 0, 0) := by decide +kernel
theorem q156_8 : am_look 156 8 = some (.aload_n 0, 9, 0, 0, 0) := by decide +kernel
theorem q156_9 : am_look 156 9 = some (.getfield 146, 12, 716, 12, 0) := by decide +kernel
theorem q156_12 : am_look 156 12 = some (.if_icmp .ge 10, 15, 22, 0, 0) := by decide +kernel
theorem q156_15 : am_look 156 15 = some (.aload_n 0, 16, 0, 0, 0) := by decide +kernel
theorem q156_16 : am_look 156 16 = some (.ldc 100, 18, 0, 0, (-100001)) := by decide +kernel
theorem q156_18 : am_look 156 18 = some (.invokevirtual 101, 21, 70, 2, 11) := by decide +kernel
theorem q156_21 : am_look 156 21 = some (.ireturn, 22, 0, 0, 0) := by decide +kernel
theorem q156_22 : am_look 156 22 = some (.aload_n 0, 23, 0, 0, 0) := by decide +kernel
theorem q156_23 : am_look 156 23 = some (.getfield 146, 26, 716, 12, 0) := by decide +kernel
theorem q156_26 : am_look 156 26 = some (.istore_n 2, 27, 2, 0, 0) := by decide +kernel
theorem q156_27 : am_look 156 27 = some (.aload_n 0, 28, 0, 0, 0) := by decide +kernel
theorem q156_28 : am_look 156 28 = some (.getfield 92, 31, 714, 10, 0) := by decide +kernel
theorem q156_31 : am_look 156 31 = some (.bipush 6, 33, 0, 0, 6) := by decide +kernel
theorem q156_33 : am_look 156 33 = some (.iconst 0, 34, 0, 0, 0) := by decide +kernel
theorem q156_34 : am_look 156 34 = some (.iload_n 2, 35, 2, 0, 0) := by decide +kernel
theorem q156_35 : am_look 156 35 = some (.invokevirtual 110, 38, 97, 4, 5) := by decide +kernel
theorem q156_38 : am_look 156 38 = some (.aload_n 0, 39, 0, 0, 0) := by decide +kernel
theorem q156_39 : am_look 156 39 = some (.iload_n 1, 40, 1, 0, 0) := by decide +kernel
theorem q156_40 : am_look 156 40 = some (.putfield 146, 43, 716, 12, 0) := by decide +kernel
theorem q156_43 : am_look 156 43 = some (.iload_n 2, 44, 2, 0, 0) := by decide +kernel
theorem q156_44 : am_look 156 44 = some (.ireturn, 45, 0, 0, 0) := by decide +kernel
theorem zb156 : am_zb 156 = false := by decide +kernel
theorem ml156 : am_ml 156 = 3 := by decide +kernel
theorem np156 : am_np 156 + (if am_sc 156 then 0 else 1) = 2 := by decide +kernel
theorem st156 {d : Nat} {h h1 : am_H} {r : Option am_V} (p0 : Nat) (a1 : Int) (H : am_x (am_cd d) 156 (fun r2 h2 => r2 = r ∧ h2 = h1) 0 0 [some (.inr (.inr p0)), some (.inl a1), none] [] h) : am_cd (d + 1) 156 [.inr (.inr p0), .inl a1] h r h1 := by
  refine ⟨⟨by rw [ml156]; simp [am_en], by rw [np156]; rfl⟩, ?_⟩
  rw [ml156]; exact H
theorem q157_0 : am_look 157 0 = some (.aload_n 0, 1, 0, 0, 0) := by decide +kernel
theorem q157_1 : am_look 157 1 = some (.getfield 10, 4, 704, 0, 0) := by decide +kernel
theorem q157_4 : am_look 157 4 = some (.iload_n 1, 5, 1, 0, 0) := by decide +kernel
theorem q157_5 : am_look 157 5 = some (.invokevirtual 118, 8, 37, 2, 6) := by decide +kernel
theorem q157_8 : am_look 157 8 = some (.ifCond .eq 21, 11, 29, 0, 0) := by decide +kernel
theorem q157_11 : am_look 157 11 = some (.iload_n 2, 12, 2, 0, 0) := by decide +kernel
theorem q157_12 : am_look 157 12 = some (.invokestatic 150, 15, 9, 1, 99) := by decide +kernel
theorem q157_15 : am_look 157 15 = some (.ifCond .eq 14, 18, 29, 0, 0) := by decide +kernel
theorem q157_18 : am_look 157 18 = some (.iload_n 3, 19, 3, 0, 0) := by decide +kernel
theorem q157_19 : am_look 157 19 = some (.iconst 1, 20, 0, 0, 1) := by decide +kernel
theorem q157_20 : am_look 157 20 = some (.if_icmp .lt 9, 23, 29, 0, 0) := by decide +kernel
theorem q157_23 : am_look 157 23 = some (.iload_n 3, 24, 3, 0, 0) := by decide +kernel
theorem q157_24 : am_look 157 24 = some (.bipush 9, 26, 0, 0, 9) := by decide +kernel
theorem q157_26 : am_look 157 26 = some (.if_icmp .le 10, 29, 36, 0, 0) := by decide +kernel
theorem q157_29 : am_look 157 29 = some (.aload_n 0, 30, 0, 0, 0) := by decide +kernel
theorem q157_30 : am_look 157 30 = some (.ldc 100, 32, 0, 0, (-100001)) := by decide +kernel
theorem q157_32 : am_look 157 32 = some (.invokevirtual 101, 35, 70, 2, 11) := by decide +kernel
theorem q157_35 : am_look 157 35 = some (.ireturn, 36, 0, 0, 0) := by decide +kernel
theorem q157_36 : am_look 157 36 = some (.aload_n 0, 37, 0, 0, 0) := by decide +kernel
theorem q157_37 : am_look 157 37 = some (.getfield 19, 40, 705, 1, 0) := by decide +kernel
theorem q157_40 : am_look 157 40 = some (.invokevirtual 153, 43, 10, 1, 1) := by decide +kernel
theorem q157_43 : am_look 157 43 = some (.bipush 20, 45, 0, 0, 20) := by decide +kernel
theorem q157_45 : am_look 157 45 = some (.if_icmp .lt 10, 48, 55, 0, 0) := by decide +kernel
theorem q157_48 : am_look 157 48 = some (.aload_n 0, 49, 0, 0, 0) := by decide +kernel
theorem q157_49 : am_look 157 49 = some (.ldc 109, 51, 0, 0, (-100005)) := by decide +kernel
theorem q157_51 : am_look 157 51 = some (.invokevirtual 101, 54, 70, 2, 11) := by decide +kernel
theorem q157_54 : am_look 157 54 = some (.ireturn, 55, 0, 0, 0) := by decide +kernel
theorem q157_55 : am_look 157 55 = some (.aload_n 0, 56, 0, 0, 0) := by decide +kernel
theorem q157_56 : am_look 157 56 = some (.getfield 92, 59, 714, 10, 0) := by decide +kernel
theorem q157_59 : am_look 157 59 = some (.iconst 2, 60, 0, 0, 2) := by decide +kernel
theorem q157_60 : am_look 157 60 = some (.iconst 0, 61, 0, 0, 0) := by decide +kernel
theorem q157_61 : am_look 157 61 = some (.iconst 0, 62, 0, 0, 0) := by decide +kernel
theorem q157_62 : am_look 157 62 = some (.invokevirtual 110, 65, 97, 4, 5) := by decide +kernel
theorem q157_65 : am_look 157 65 = some (.aload_n 0, 66, 0, 0, 0) := by decide +kernel
theorem q157_66 : am_look 157 66 = some (.getfield 19, 69, 705, 1, 0) := by decide +kernel
theorem q157_69 : am_look 157 69 = some (.iload_n 1, 70, 1, 0, 0) := by decide +kernel
theorem q157_70 : am_look 157 70 = some (.iload_n 2, 71, 2, 0, 0) := by decide +kernel
theorem q157_71 : am_look 157 71 = some (.iload_n 3, 72, 3, 0, 0) := by decide +kernel
theorem q157_72 : am_look 157 72 = some (.invokevirtual 154, 75, 12, 4, 1) := by decide +kernel
theorem q157_75 : am_look 157 75 = some (.ireturn, 76, 0, 0, 0) := by decide +kernel
theorem zb157 : am_zb 157 = false := by decide +kernel
theorem ml157 : am_ml 157 = 4 := by decide +kernel
theorem np157 : am_np 157 + (if am_sc 157 then 0 else 1) = 4 := by decide +kernel
theorem st157 {d : Nat} {h h1 : am_H} {r : Option am_V} (p0 : Nat) (a1 : Int) (a2 : Int) (a3 : Int) (H : am_x (am_cd d) 157 (fun r2 h2 => r2 = r ∧ h2 = h1) 0 0 [some (.inr (.inr p0)), some (.inl a1), some (.inl a2), some (.inl a3)] [] h) : am_cd (d + 1) 157 [.inr (.inr p0), .inl a1, .inl a2, .inl a3] h r h1 := by
  refine ⟨⟨by rw [ml157]; simp [am_en], by rw [np157]; rfl⟩, ?_⟩
  rw [ml157]; exact H
theorem q158_0 : am_look 158 0 = some (.aload_n 0, 1, 0, 0, 0) := by decide +kernel
theorem q158_1 : am_look 158 1 = some (.getfield 19, 4, 705, 1, 0) := by decide +kernel
theorem q158_4 : am_look 158 4 = some (.iload_n 1, 5, 1, 0, 0) := by decide +kernel
theorem q158_5 : am_look 158 5 = some (.invokevirtual 158, 8, 11, 2, 1) := by decide +kernel
theorem q158_8 : am_look 158 8 = some (.ifCond .eq 21, 11, 29, 0, 0) := by decide +kernel
theorem q158_11 : am_look 158 11 = some (.iload_n 2, 12, 2, 0, 0) := by decide +kernel
theorem q158_12 : am_look 158 12 = some (.invokestatic 187, 15, 72, 1, 99) := by decide +kernel
theorem q158_15 : am_look 158 15 = some (.ifCond .eq 14, 18, 29, 0, 0) := by decide +kernel
theorem q158_18 : am_look 158 18 = some (.aload_n 0, 19, 0, 0, 0) := by decide +kernel
theorem q158_19 : am_look 158 19 = some (.getfield 26, 22, 706, 2, 0) := by decide +kernel
theorem q158_22 : am_look 158 22 = some (.iload_n 3, 23, 3, 0, 0) := by decide +kernel
theorem q158_23 : am_look 158 23 = some (.invokevirtual 178, 26, 24, 2, 4) := by decide +kernel
theorem q158_26 : am_look 158 26 = some (.ifCond .ne 10, 29, 36, 0, 0) := by decide +kernel
theorem q158_29 : am_look 158 29 = some (.aload_n 0, 30, 0, 0, 0) := by decide +kernel
theorem q158_30 : am_look 158 30 = some (.ldc 100, 32, 0, 0, (-100001)) := by decide +kernel
theorem q158_32 : am_look 158 32 = some (.invokevirtual 101, 35, 70, 2, 11) := by decide +kernel
theorem q158_35 : am_look 158 35 = some (.ireturn, 36, 0, 0, 0) := by decide +kernel
theorem q158_36 : am_look 158 36 = some (.aload_n 0, 37, 0, 0, 0) := by decide +kernel
theorem q158_37 : am_look 158 37 = some (.getfield 35, 40, 707, 3, 0) := by decide +kernel
theorem q158_40 : am_look 158 40 = some (.invokevirtual 190, 43, 0, 1, 0) := by decide +kernel
theorem q158_43 : am_look 158 43 = some (.bipush 60, 45, 0, 0, 60) := by decide +kernel
theorem q158_45 : am_look 158 45 = some (.if_icmp .lt 10, 48, 55, 0, 0) := by decide +kernel
theorem q158_48 : am_look 158 48 = some (.aload_n 0, 49, 0, 0, 0) := by decide +kernel
theorem q158_49 : am_look 158 49 = some (.ldc 109, 51, 0, 0, (-100005)) := by decide +kernel
theorem q158_51 : am_look 158 51 = some (.invokevirtual 101, 54, 70, 2, 11) := by decide +kernel
theorem q158_54 : am_look 158 54 = some (.ireturn, 55, 0, 0, 0) := by decide +kernel
theorem q158_55 : am_look 158 55 = some (.aload_n 0, 56, 0, 0, 0) := by decide +kernel
theorem q158_56 : am_look 158 56 = some (.getfield 92, 59, 714, 10, 0) := by decide +kernel
theorem q158_59 : am_look 158 59 = some (.iconst 4, 60, 0, 0, 4) := by decide +kernel
theorem q158_60 : am_look 158 60 = some (.iconst 0, 61, 0, 0, 0) := by decide +kernel
theorem q158_61 : am_look 158 61 = some (.iconst 0, 62, 0, 0, 0) := by decide +kernel
theorem q158_62 : am_look 158 62 = some (.invokevirtual 110, 65, 97, 4, 5) := by decide +kernel
theorem q158_65 : am_look 158 65 = some (.aload_n 0, 66, 0, 0, 0) := by decide +kernel
theorem q158_66 : am_look 158 66 = some (.getfield 35, 69, 707, 3, 0) := by decide +kernel
theorem q158_69 : am_look 158 69 = some (.iload_n 1, 70, 1, 0, 0) := by decide +kernel
theorem q158_70 : am_look 158 70 = some (.iload_n 2, 71, 2, 0, 0) := by decide +kernel
theorem q158_71 : am_look 158 71 = some (.iload_n 3, 72, 3, 0, 0) := by decide +kernel
theorem q158_72 : am_look 158 72 = some (.aload_n 0, 73, 0, 0, 0) := by decide +kernel
theorem q158_73 : am_look 158 73 = some (.getfield 146, 76, 716, 12, 0) := by decide +kernel
theorem q158_76 : am_look 158 76 = some (.invokevirtual 191, 79, 2, 5, 0) := by decide +kernel
theorem q158_79 : am_look 158 79 = some (.ireturn, 80, 0, 0, 0) := by decide +kernel
theorem zb158 : am_zb 158 = false := by decide +kernel
theorem ml158 : am_ml 158 = 4 := by decide +kernel
theorem np158 : am_np 158 + (if am_sc 158 then 0 else 1) = 4 := by decide +kernel
theorem st158 {d : Nat} {h h1 : am_H} {r : Option am_V} (p0 : Nat) (a1 : Int) (a2 : Int) (a3 : Int) (H : am_x (am_cd d) 158 (fun r2 h2 => r2 = r ∧ h2 = h1) 0 0 [some (.inr (.inr p0)), some (.inl a1), some (.inl a2), some (.inl a3)] [] h) : am_cd (d + 1) 158 [.inr (.inr p0), .inl a1, .inl a2, .inl a3] h r h1 := by
  refine ⟨⟨by rw [ml158]; simp [am_en], by rw [np158]; rfl⟩, ?_⟩
  rw [ml158]; exact H
theorem q159_0 : am_look 159 0 = some (.aload_n 0, 1, 0, 0, 0) := by decide +kernel
theorem q159_1 : am_look 159 1 = some (.getfield 35, 4, 707, 3, 0) := by decide +kernel
theorem q159_4 : am_look 159 4 = some (.iload_n 1, 5, 1, 0, 0) := by decide +kernel
theorem q159_5 : am_look 159 5 = some (.invokevirtual 195, 8, 1, 2, 0) := by decide +kernel
theorem q159_8 : am_look 159 8 = some (.ifCond .ne 10, 11, 18, 0, 0) := by decide +kernel
theorem q159_11 : am_look 159 11 = some (.aload_n 0, 12, 0, 0, 0) := by decide +kernel
theorem q159_12 : am_look 159 12 = some (.ldc 100, 14, 0, 0, (-100001)) := by decide +kernel
theorem q159_14 : am_look 159 14 = some (.invokevirtual 101, 17, 70, 2, 11) := by decide +kernel
theorem q159_17 : am_look 159 17 = some (.ireturn, 18, 0, 0, 0) := by decide +kernel
theorem q159_18 : am_look 159 18 = some (.aload_n 0, 19, 0, 0, 0) := by decide +kernel
theorem q159_19 : am_look 159 19 = some (.getfield 35, 22, 707, 3, 0) := by decide +kernel
theorem q159_22 : am_look 159 22 = some (.iload_n 1, 23, 1, 0, 0) := by decide +kernel
theorem q159_23 : am_look 159 23 = some (.invokevirtual 196, 26, 4, 2, 0) := by decide +kernel
theorem q159_26 : am_look 159 26 = some (.ifCond .eq 10, 29, 36, 0, 0) := by decide +kernel
theorem q159_29 : am_look 159 29 = some (.aload_n 0, 30, 0, 0, 0) := by decide +kernel
theorem q159_30 : am_look 159 30 = some (.ldc 199, 32, 0, 0, (-100007)) := by decide +kernel
theorem q159_32 : am_look 159 32 = some (.invokevirtual 101, 35, 70, 2, 11) := by decide +kernel
theorem q159_35 : am_look 159 35 = some (.ireturn, 36, 0, 0, 0) := by decide +kernel
theorem q159_36 : am_look 159 36 = some (.aload_n 0, 37, 0, 0, 0) := by decide +kernel
theorem q159_37 : am_look 159 37 = some (.getfield 92, 40, 714, 10, 0) := by decide +kernel
theorem q159_40 : am_look 159 40 = some (.iconst 5, 41, 0, 0, 5) := by decide +kernel
theorem q159_41 : am_look 159 41 = some (.iload_n 1, 42, 1, 0, 0) := by decide +kernel
theorem q159_42 : am_look 159 42 = some (.iconst 0, 43, 0, 0, 0) := by decide +kernel
theorem q159_43 : am_look 159 43 = some (.invokevirtual 110, 46, 97, 4, 5) := by decide +kernel
theorem q159_46 : am_look 159 46 = some (.aload_n 0, 47, 0, 0, 0) := by decide +kernel
theorem q159_47 : am_look 159 47 = some (.getfield 35, 50, 707, 3, 0) := by decide +kernel
theorem q159_50 : am_look 159 50 = some (.iload_n 1, 51, 1, 0, 0) := by decide +kernel
theorem q159_51 : am_look 159 51 = some (.aload_n 0, 52, 0, 0, 0) := by decide +kernel
theorem q159_52 : am_look 159 52 = some (.getfield 146, 55, 716, 12, 0) := by decide +kernel
theorem q159_55 : am_look 159 55 = some (.invokevirtual 200, 58, 5, 3, 0) := by decide +kernel
theorem q159_58 : am_look 159 58 = some (.iconst 1, 59, 0, 0, 1) := by decide +kernel
theorem q159_59 : am_look 159 59 = some (.ireturn, 60, 0, 0, 0) := by decide +kernel
theorem zb159 : am_zb 159 = false := by decide +kernel
theorem ml159 : am_ml 159 = 2 := by decide +kernel
theorem np159 : am_np 159 + (if am_sc 159 then 0 else 1) = 2 := by decide +kernel
theorem st159 {d : Nat} {h h1 : am_H} {r : Option am_V} (p0 : Nat) (a1 : Int) (H : am_x (am_cd d) 159 (fun r2 h2 => r2 = r ∧ h2 = h1) 0 0 [some (.inr (.inr p0)), some (.inl a1)] [] h) : am_cd (d + 1) 159 [.inr (.inr p0), .inl a1] h r h1 := by
  refine ⟨⟨by rw [ml159]; simp [am_en], by rw [np159]; rfl⟩, ?_⟩
  rw [ml159]; exact H
theorem q160_0 : am_look 160 0 = some (.aload_n 0, 1, 0, 0, 0) := by decide +kernel
theorem q160_1 : am_look 160 1 = some (.getfield 92, 4, 714, 10, 0) := by decide +kernel
theorem q160_4 : am_look 160 4 = some (.invokevirtual 328, 7, 30, 1, 5) := by decide +kernel
theorem q160_7 : am_look 160 7 = some (.ifCond .ne 10, 10, 17, 0, 0) := by decide +kernel
theorem q160_10 : am_look 160 10 = some (.aload_n 0, 11, 0, 0, 0) := by decide +kernel
theorem q160_11 : am_look 160 11 = some (.ldc 210, 13, 0, 0, (-100006)) := by decide +kernel
theorem q160_13 : am_look 160 13 = some (.invokevirtual 101, 16, 70, 2, 11) := by decide +kernel
theorem q160_16 : am_look 160 16 = some (.ireturn, 17, 0, 0, 0) := by decide +kernel
theorem q160_17 : am_look 160 17 = some (.aload_n 0, 18, 0, 0, 0) := by decide +kernel
theorem q160_18 : am_look 160 18 = some (.getfield 92, 21, 714, 10, 0) := by decide +kernel
theorem q160_21 : am_look 160 21 = some (.invokevirtual 329, 24, 32, 1, 5) := by decide +kernel
theorem q160_24 : am_look 160 24 = some (.istore_n 1, 25, 1, 0, 0) := by decide +kernel
theorem q160_25 : am_look 160 25 = some (.aload_n 0, 26, 0, 0, 0) := by decide +kernel
theorem q160_26 : am_look 160 26 = some (.getfield 92, 29, 714, 10, 0) := by decide +kernel
theorem q160_29 : am_look 160 29 = some (.invokevirtual 332, 32, 33, 1, 5) := by decide +kernel
theorem q160_32 : am_look 160 32 = some (.istore_n 2, 33, 2, 0, 0) := by decide +kernel
theorem q160_33 : am_look 160 33 = some (.aload_n 0, 34, 0, 0, 0) := by decide +kernel
theorem q160_34 : am_look 160 34 = some (.getfield 92, 37, 714, 10, 0) := by decide +kernel
theorem q160_37 : am_look 160 37 = some (.invokevirtual 335, 40, 34, 1, 5) := by decide +kernel
theorem q160_40 : am_look 160 40 = some (.istore_n 3, 41, 3, 0, 0) := by decide +kernel
theorem q160_41 : am_look 160 41 = some (.iload_n 1, 42, 1, 0, 0) := by decide +kernel
theorem q160_42 : am_look 160 42 = some (.tableswitch 117 0 5 #[38, 48, 75, 85, 96, 106], 80, 0, 0, 0) := by decide +kernel
theorem q160_80 : am_look 160 80 = some (.aload_n 0, 81, 0, 0, 0) := by decide +kernel
theorem q160_81 : am_look 160 81 = some (.getfield 10, 84, 704, 0, 0) := by decide +kernel
theorem q160_84 : am_look 160 84 = some (.invokevirtual 338, 87, 40, 1, 6) := by decide +kernel
theorem q160_87 : am_look 160 87 = some (.goto 77, 90, 164, 0, 0) := by decide +kernel
theorem q160_90 : am_look 160 90 = some (.aload_n 0, 91, 0, 0, 0) := by decide +kernel
theorem q160_91 : am_look 160 91 = some (.getfield 10, 94, 704, 0, 0) := by decide +kernel
theorem q160_94 : am_look 160 94 = some (.aload_n 0, 95, 0, 0, 0) := by decide +kernel
theorem q160_95 : am_look 160 95 = some (.getfield 10, 98, 704, 0, 0) := by decide +kernel
theorem q160_98 : am_look 160 98 = some (.iload_n 2, 99, 2, 0, 0) := by decide +kernel
theorem q160_99 : am_look 160 99 = some (.invokevirtual 341, 102, 46, 2, 6) := by decide +kernel
theorem q160_102 : am_look 160 102 = some (.aload_n 0, 103, 0, 0, 0) := by decide +kernel
theorem q160_103 : am_look 160 103 = some (.getfield 10, 106, 704, 0, 0) := by decide +kernel
theorem q160_106 : am_look 160 106 = some (.iload_n 2, 107, 2, 0, 0) := by decide +kernel
theorem q160_107 : am_look 160 107 = some (.invokevirtual 344, 110, 47, 2, 6) := by decide +kernel
theorem q160_110 : am_look 160 110 = some (.iload_n 3, 111, 3, 0, 0) := by decide +kernel
theorem q160_111 : am_look 160 111 = some (.invokevirtual 129, 114, 100, 4, 6) := by decide +kernel
theorem q160_114 : am_look 160 114 = some (.goto 50, 117, 164, 0, 0) := by decide +kernel
theorem q160_117 : am_look 160 117 = some (.aload_n 0, 118, 0, 0, 0) := by decide +kernel
theorem q160_118 : am_look 160 118 = some (.getfield 19, 121, 705, 1, 0) := by decide +kernel
theorem q160_121 : am_look 160 121 = some (.invokevirtual 347, 124, 13, 1, 1) := by decide +kernel
theorem q160_124 : am_look 160 124 = some (.goto 40, 127, 164, 0, 0) := by decide +kernel
theorem q160_127 : am_look 160 127 = some (.aload_n 0, 128, 0, 0, 0) := by decide +kernel
theorem q160_128 : am_look 160 128 = some (.getfield 26, 131, 706, 2, 0) := by decide +kernel
theorem q160_131 : am_look 160 131 = some (.iload_n 3, 132, 3, 0, 0) := by decide +kernel
theorem q160_132 : am_look 160 132 = some (.invokevirtual 350, 135, 28, 2, 4) := by decide +kernel
theorem q160_135 : am_look 160 135 = some (.goto 29, 138, 164, 0, 0) := by decide +kernel
theorem q160_138 : am_look 160 138 = some (.aload_n 0, 139, 0, 0, 0) := by decide +kernel
theorem q160_139 : am_look 160 139 = some (.getfield 35, 142, 707, 3, 0) := by decide +kernel
theorem q160_142 : am_look 160 142 = some (.invokevirtual 353, 145, 3, 1, 0) := by decide +kernel
theorem q160_145 : am_look 160 145 = some (.goto 19, 148, 164, 0, 0) := by decide +kernel
theorem q160_148 : am_look 160 148 = some (.aload_n 0, 149, 0, 0, 0) := by decide +kernel
theorem q160_149 : am_look 160 149 = some (.getfield 35, 152, 707, 3, 0) := by decide +kernel
theorem q160_152 : am_look 160 152 = some (.iload_n 2, 153, 2, 0, 0) := by decide +kernel
theorem q160_153 : am_look 160 153 = some (.invokevirtual 356, 156, 6, 2, 0) := by decide +kernel
theorem q160_156 : am_look 160 156 = some (.goto 8, 159, 164, 0, 0) := by decide +kernel
theorem q160_159 : am_look 160 159 = some (.aload_n 0, 160, 0, 0, 0) := by decide +kernel
theorem q160_160 : am_look 160 160 = some (.iload_n 3, 161, 3, 0, 0) := by decide +kernel
theorem q160_161 : am_look 160 161 = some (.putfield 146, 164, 716, 12, 0) := by decide +kernel
theorem q160_164 : am_look 160 164 = some (.aload_n 0, 165, 0, 0, 0) := by decide +kernel
theorem q160_165 : am_look 160 165 = some (.getfield 92, 168, 714, 10, 0) := by decide +kernel
theorem q160_168 : am_look 160 168 = some (.invokevirtual 359, 171, 35, 1, 5) := by decide +kernel
theorem q160_171 : am_look 160 171 = some (.ireturn, 172, 0, 0, 0) := by decide +kernel
theorem zb160 : am_zb 160 = false := by decide +kernel
theorem ml160 : am_ml 160 = 4 := by decide +kernel
theorem np160 : am_np 160 + (if am_sc 160 then 0 else 1) = 1 := by decide +kernel
theorem st160 {d : Nat} {h h1 : am_H} {r : Option am_V} (p0 : Nat) (H : am_x (am_cd d) 160 (fun r2 h2 => r2 = r ∧ h2 = h1) 0 0 [some (.inr (.inr p0)), none, none, none] [] h) : am_cd (d + 1) 160 [.inr (.inr p0)] h r h1 := by
  refine ⟨⟨by rw [ml160]; simp [am_en], by rw [np160]; rfl⟩, ?_⟩
  rw [ml160]; exact H
theorem q161_0 : am_look 161 0 = some (.aload_n 0, 1, 0, 0, 0) := by decide +kernel
theorem q161_1 : am_look 161 1 = some (.iload_n 1, 2, 1, 0, 0) := by decide +kernel
theorem q161_2 : am_look 161 2 = some (.invokevirtual 100, 5, 114, 2, 12) := by decide +kernel
theorem q161_5 : am_look 161 5 = some (.ifCond .eq 21, 8, 26, 0, 0) := by decide +kernel
theorem q161_8 : am_look 161 8 = some (.aload_n 0, 9, 0, 0, 0) := by decide +kernel
theorem q161_9 : am_look 161 9 = some (.iload_n 2, 10, 2, 0, 0) := by decide +kernel
theorem q161_10 : am_look 161 10 = some (.invokevirtual 100, 13, 114, 2, 12) := by decide +kernel
theorem q161_13 : am_look 161 13 = some (.ifCond .eq 13, 16, 26, 0, 0) := by decide +kernel
theorem q161_16 : am_look 161 16 = some (.iload_n 3, 17, 3, 0, 0) := by decide +kernel
theorem q161_17 : am_look 161 17 = some (.iconst 0, 18, 0, 0, 0) := by decide +kernel
theorem q161_18 : am_look 161 18 = some (.bipush 99, 20, 0, 0, 99) := by decide +kernel
theorem q161_20 : am_look 161 20 = some (.invokestatic 83, 23, 73, 3, 99) := by decide +kernel
theorem q161_23 : am_look 161 23 = some (.ifCond .ne 10, 26, 33, 0, 0) := by decide +kernel
theorem q161_26 : am_look 161 26 = some (.aload_n 0, 27, 0, 0, 0) := by decide +kernel
theorem q161_27 : am_look 161 27 = some (.ldc 95, 29, 0, 0, (-100001)) := by decide +kernel
theorem q161_29 : am_look 161 29 = some (.invokevirtual 91, 32, 74, 2, 12) := by decide +kernel
theorem q161_32 : am_look 161 32 = some (.ireturn, 33, 0, 0, 0) := by decide +kernel
theorem q161_33 : am_look 161 33 = some (.iload_n 1, 34, 1, 0, 0) := by decide +kernel
theorem q161_34 : am_look 161 34 = some (.iload_n 2, 35, 2, 0, 0) := by decide +kernel
theorem q161_35 : am_look 161 35 = some (.if_icmp .ne 10, 38, 45, 0, 0) := by decide +kernel
theorem q161_38 : am_look 161 38 = some (.aload_n 0, 39, 0, 0, 0) := by decide +kernel
theorem q161_39 : am_look 161 39 = some (.ldc 104, 41, 0, 0, (-100003)) := by decide +kernel
theorem q161_41 : am_look 161 41 = some (.invokevirtual 91, 44, 74, 2, 12) := by decide +kernel
theorem q161_44 : am_look 161 44 = some (.ireturn, 45, 0, 0, 0) := by decide +kernel
theorem q161_45 : am_look 161 45 = some (.aload_n 0, 46, 0, 0, 0) := by decide +kernel
theorem q161_46 : am_look 161 46 = some (.invokevirtual 97, 49, 77, 1, 12) := by decide +kernel
theorem q161_49 : am_look 161 49 = some (.aload_n 0, 50, 0, 0, 0) := by decide +kernel
theorem q161_50 : am_look 161 50 = some (.iload_n 1, 51, 1, 0, 0) := by decide +kernel
theorem q161_51 : am_look 161 51 = some (.iload_n 2, 52, 2, 0, 0) := by decide +kernel
theorem q161_52 : am_look 161 52 = some (.invokevirtual 105, 55, 76, 3, 12) := by decide +kernel
theorem q161_55 : am_look 161 55 = some (.istore 4, 57, 4, 0, 0) := by decide +kernel
theorem q161_57 : am_look 161 57 = some (.aload_n 0, 58, 0, 0, 0) := by decide +kernel
theorem q161_58 : am_look 161 58 = some (.getfield 7, 61, 768, 0, 0) := by decide +kernel
theorem q161_61 : am_look 161 61 = some (.bipush 46, 63, 0, 0, 46) := by decide +kernel
theorem q161_63 : am_look 161 63 = some (.bipush 12, 65, 0, 0, 12) := by decide +kernel
theorem q161_65 : am_look 161 65 = some (.iload_n 1, 66, 1, 0, 0) := by decide +kernel
theorem q161_66 : am_look 161 66 = some (.imul, 67, 0, 0, 0) := by decide +kernel
theorem q161_67 : am_look 161 67 = some (.iadd, 68, 0, 0, 0) := by decide +kernel
theorem q161_68 : am_look 161 68 = some (.iload_n 2, 69, 2, 0, 0) := by decide +kernel
theorem q161_69 : am_look 161 69 = some (.iadd, 70, 0, 0, 0) := by decide +kernel
theorem q161_70 : am_look 161 70 = some (.iload_n 3, 71, 3, 0, 0) := by decide +kernel
theorem q161_71 : am_look 161 71 = some (.iastore, 72, 0, 0, 0) := by decide +kernel
theorem q161_72 : am_look 161 72 = some (.aload_n 0, 73, 0, 0, 0) := by decide +kernel
theorem q161_73 : am_look 161 73 = some (.getfield 7, 76, 768, 0, 0) := by decide +kernel
theorem q161_76 : am_look 161 76 = some (.bipush 46, 78, 0, 0, 46) := by decide +kernel
theorem q161_78 : am_look 161 78 = some (.bipush 12, 80, 0, 0, 12) := by decide +kernel
theorem q161_80 : am_look 161 80 = some (.iload_n 2, 81, 2, 0, 0) := by decide +kernel
theorem q161_81 : am_look 161 81 = some (.imul, 82, 0, 0, 0) := by decide +kernel
theorem q161_82 : am_look 161 82 = some (.iadd, 83, 0, 0, 0) := by decide +kernel
theorem q161_83 : am_look 161 83 = some (.iload_n 1, 84, 1, 0, 0) := by decide +kernel
theorem q161_84 : am_look 161 84 = some (.iadd, 85, 0, 0, 0) := by decide +kernel
theorem q161_85 : am_look 161 85 = some (.iload_n 3, 86, 3, 0, 0) := by decide +kernel
theorem q161_86 : am_look 161 86 = some (.iastore, 87, 0, 0, 0) := by decide +kernel
theorem q161_87 : am_look 161 87 = some (.iload 4, 89, 4, 0, 0) := by decide +kernel
theorem q161_89 : am_look 161 89 = some (.ireturn, 90, 0, 0, 0) := by decide +kernel
theorem zb161 : am_zb 161 = false := by decide +kernel
theorem ml161 : am_ml 161 = 5 := by decide +kernel
theorem np161 : am_np 161 + (if am_sc 161 then 0 else 1) = 4 := by decide +kernel
theorem st161 {d : Nat} {h h1 : am_H} {r : Option am_V} (p0 : Nat) (a1 : Int) (a2 : Int) (a3 : Int) (H : am_x (am_cd d) 161 (fun r2 h2 => r2 = r ∧ h2 = h1) 0 0 [some (.inr (.inr p0)), some (.inl a1), some (.inl a2), some (.inl a3), none] [] h) : am_cd (d + 1) 161 [.inr (.inr p0), .inl a1, .inl a2, .inl a3] h r h1 := by
  refine ⟨⟨by rw [ml161]; simp [am_en], by rw [np161]; rfl⟩, ?_⟩
  rw [ml161]; exact H
theorem q162_0 : am_look 162 0 = some (.aload_n 0, 1, 0, 0, 0) := by decide +kernel
theorem q162_1 : am_look 162 1 = some (.iload_n 1, 2, 1, 0, 0) := by decide +kernel
theorem q162_2 : am_look 162 2 = some (.invokevirtual 100, 5, 114, 2, 12) := by decide +kernel
theorem q162_5 : am_look 162 5 = some (.ifCond .eq 11, 8, 16, 0, 0) := by decide +kernel
theorem q162_8 : am_look 162 8 = some (.aload_n 0, 9, 0, 0, 0) := by decide +kernel
theorem q162_9 : am_look 162 9 = some (.iload_n 2, 10, 2, 0, 0) := by decide +kernel
theorem q162_10 : am_look 162 10 = some (.invokevirtual 100, 13, 114, 2, 12) := by decide +kernel
theorem q162_13 : am_look 162 13 = some (.ifCond .ne 10, 16, 23, 0, 0) := by decide +kernel
theorem q162_16 : am_look 162 16 = some (.aload_n 0, 17, 0, 0, 0) := by decide +kernel
theorem q162_17 : am_look 162 17 = some (.ldc 95, 19, 0, 0, (-100001)) := by decide +kernel
theorem q162_19 : am_look 162 19 = some (.invokevirtual 91, 22, 74, 2, 12) := by decide +kernel
theorem q162_22 : am_look 162 22 = some (.ireturn, 23, 0, 0, 0) := by decide +kernel
theorem q162_23 : am_look 162 23 = some (.aload_n 0, 24, 0, 0, 0) := by decide +kernel
theorem q162_24 : am_look 162 24 = some (.iload_n 1, 25, 1, 0, 0) := by decide +kernel
theorem q162_25 : am_look 162 25 = some (.invokevirtual 109, 28, 120, 2, 12) := by decide +kernel
theorem q162_28 : am_look 162 28 = some (.aload_n 0, 29, 0, 0, 0) := by decide +kernel
theorem q162_29 : am_look 162 29 = some (.getfield 16, 32, 772, 4, 0) := by decide +kernel
theorem q162_32 : am_look 162 32 = some (.iload_n 2, 33, 2, 0, 0) := by decide +kernel
theorem q162_33 : am_look 162 33 = some (.iaload, 34, 0, 0, 0) := by decide +kernel
theorem q162_34 : am_look 162 34 = some (.ifCond .ge 12, 37, 46, 0, 0) := by decide +kernel
theorem q162_37 : am_look 162 37 = some (.aload_n 0, 38, 0, 0, 0) := by decide +kernel
theorem q162_38 : am_look 162 38 = some (.ldc 113, 40, 0, 0, (-100008)) := by decide +kernel
theorem q162_40 : am_look 162 40 = some (.invokevirtual 91, 43, 74, 2, 12) := by decide +kernel
theorem q162_43 : am_look 162 43 = some (.goto 9, 46, 52, 0, 0) := by decide +kernel
theorem q162_46 : am_look 162 46 = some (.aload_n 0, 47, 0, 0, 0) := by decide +kernel
theorem q162_47 : am_look 162 47 = some (.getfield 16, 50, 772, 4, 0) := by decide +kernel
theorem q162_50 : am_look 162 50 = some (.iload_n 2, 51, 2, 0, 0) := by decide +kernel
theorem q162_51 : am_look 162 51 = some (.iaload, 52, 0, 0, 0) := by decide +kernel
theorem q162_52 : am_look 162 52 = some (.ireturn, 53, 0, 0, 0) := by decide +kernel
theorem zb162 : am_zb 162 = false := by decide +kernel
theorem ml162 : am_ml 162 = 3 := by decide +kernel
theorem np162 : am_np 162 + (if am_sc 162 then 0 else 1) = 3 := by decide +kernel
theorem st162 {d : Nat} {h h1 : am_H} {r : Option am_V} (p0 : Nat) (a1 : Int) (a2 : Int) (H : am_x (am_cd d) 162 (fun r2 h2 => r2 = r ∧ h2 = h1) 0 0 [some (.inr (.inr p0)), some (.inl a1), some (.inl a2)] [] h) : am_cd (d + 1) 162 [.inr (.inr p0), .inl a1, .inl a2] h r h1 := by
  refine ⟨⟨by rw [ml162]; simp [am_en], by rw [np162]; rfl⟩, ?_⟩
  rw [ml162]; exact H
theorem q163_0 : am_look 163 0 = some (.aload_n 0, 1, 0, 0, 0) := by decide +kernel
theorem q163_1 : am_look 163 1 = some (.iload_n 1, 2, 1, 0, 0) := by decide +kernel
theorem q163_2 : am_look 163 2 = some (.invokevirtual 100, 5, 114, 2, 12) := by decide +kernel
theorem q163_5 : am_look 163 5 = some (.ifCond .eq 22, 8, 27, 0, 0) := by decide +kernel
theorem q163_8 : am_look 163 8 = some (.iload_n 2, 9, 2, 0, 0) := by decide +kernel
theorem q163_9 : am_look 163 9 = some (.iconst 0, 10, 0, 0, 0) := by decide +kernel
theorem q163_10 : am_look 163 10 = some (.iconst 3, 11, 0, 0, 3) := by decide +kernel
theorem q163_11 : am_look 163 11 = some (.invokestatic 83, 14, 73, 3, 99) := by decide +kernel
theorem q163_14 : am_look 163 14 = some (.ifCond .eq 13, 17, 27, 0, 0) := by decide +kernel
theorem q163_17 : am_look 163 17 = some (.iload_n 3, 18, 3, 0, 0) := by decide +kernel
theorem q163_18 : am_look 163 18 = some (.iconst 1, 19, 0, 0, 1) := by decide +kernel
theorem q163_19 : am_look 163 19 = some (.bipush 9, 21, 0, 0, 9) := by decide +kernel
theorem q163_21 : am_look 163 21 = some (.invokestatic 83, 24, 73, 3, 99) := by decide +kernel
theorem q163_24 : am_look 163 24 = some (.ifCond .ne 10, 27, 34, 0, 0) := by decide +kernel
theorem q163_27 : am_look 163 27 = some (.aload_n 0, 28, 0, 0, 0) := by decide +kernel
theorem q163_28 : am_look 163 28 = some (.ldc 95, 30, 0, 0, (-100001)) := by decide +kernel
theorem q163_30 : am_look 163 30 = some (.invokevirtual 91, 33, 74, 2, 12) := by decide +kernel
theorem q163_33 : am_look 163 33 = some (.ireturn, 34, 0, 0, 0) := by decide +kernel
theorem q163_34 : am_look 163 34 = some (.aload_n 0, 35, 0, 0, 0) := by decide +kernel
theorem q163_35 : am_look 163 35 = some (.getfield 7, 38, 768, 0, 0) := by decide +kernel
theorem q163_38 : am_look 163 38 = some (.iconst 1, 39, 0, 0, 1) := by decide +kernel
theorem q163_39 : am_look 163 39 = some (.iaload, 40, 0, 0, 0) := by decide +kernel
theorem q163_40 : am_look 163 40 = some (.bipush 20, 42, 0, 0, 20) := by decide +kernel
theorem q163_42 : am_look 163 42 = some (.if_icmp .ne 10, 45, 52, 0, 0) := by decide +kernel
theorem q163_45 : am_look 163 45 = some (.aload_n 0, 46, 0, 0, 0) := by decide +kernel
theorem q163_46 : am_look 163 46 = some (.ldc 96, 48, 0, 0, (-100005)) := by decide +kernel
theorem q163_48 : am_look 163 48 = some (.invokevirtual 91, 51, 74, 2, 12) := by decide +kernel
theorem q163_51 : am_look 163 51 = some (.ireturn, 52, 0, 0, 0) := by decide +kernel
theorem q163_52 : am_look 163 52 = some (.aload_n 0, 53, 0, 0, 0) := by decide +kernel
theorem q163_53 : am_look 163 53 = some (.invokevirtual 97, 56, 77, 1, 12) := by decide +kernel
theorem q163_56 : am_look 163 56 = some (.aload_n 0, 57, 0, 0, 0) := by decide +kernel
theorem q163_57 : am_look 163 57 = some (.getfield 7, 60, 768, 0, 0) := by decide +kernel
theorem q163_60 : am_look 163 60 = some (.iconst 1, 61, 0, 0, 1) := by decide +kernel
theorem q163_61 : am_look 163 61 = some (.iaload, 62, 0, 0, 0) := by decide +kernel
theorem q163_62 : am_look 163 62 = some (.istore 4, 64, 4, 0, 0) := by decide +kernel
theorem q163_64 : am_look 163 64 = some (.aload_n 0, 65, 0, 0, 0) := by decide +kernel
theorem q163_65 : am_look 163 65 = some (.getfield 7, 68, 768, 0, 0) := by decide +kernel
theorem q163_68 : am_look 163 68 = some (.iconst 1, 69, 0, 0, 1) := by decide +kernel
theorem q163_69 : am_look 163 69 = some (.dup2, 70, 0, 0, 0) := by decide +kernel
theorem q163_70 : am_look 163 70 = some (.iaload, 71, 0, 0, 0) := by decide +kernel
theorem q163_71 : am_look 163 71 = some (.iconst 1, 72, 0, 0, 1) := by decide +kernel
theorem q163_72 : am_look 163 72 = some (.iadd, 73, 0, 0, 0) := by decide +kernel
theorem q163_73 : am_look 163 73 = some (.iastore, 74, 0, 0, 0) := by decide +kernel
theorem q163_74 : am_look 163 74 = some (.aload_n 0, 75, 0, 0, 0) := by decide +kernel
theorem q163_75 : am_look 163 75 = some (.getfield 7, 78, 768, 0, 0) := by decide +kernel
theorem q163_78 : am_look 163 78 = some (.sipush 190, 81, 0, 0, 190) := by decide +kernel
theorem q163_81 : am_look 163 81 = some (.iconst 3, 82, 0, 0, 3) := by decide +kernel
theorem q163_82 : am_look 163 82 = some (.iload 4, 84, 4, 0, 0) := by decide +kernel
theorem q163_84 : am_look 163 84 = some (.imul, 85, 0, 0, 0) := by decide +kernel
theorem q163_85 : am_look 163 85 = some (.iadd, 86, 0, 0, 0) := by decide +kernel
theorem q163_86 : am_look 163 86 = some (.iload_n 1, 87, 1, 0, 0) := by decide +kernel
theorem q163_87 : am_look 163 87 = some (.iastore, 88, 0, 0, 0) := by decide +kernel
theorem q163_88 : am_look 163 88 = some (.aload_n 0, 89, 0, 0, 0) := by decide +kernel
theorem q163_89 : am_look 163 89 = some (.getfield 7, 92, 768, 0, 0) := by decide +kernel
theorem q163_92 : am_look 163 92 = some (.sipush 190, 95, 0, 0, 190) := by decide +kernel
theorem q163_95 : am_look 163 95 = some (.iconst 3, 96, 0, 0, 3) := by decide +kernel
theorem q163_96 : am_look 163 96 = some (.iload 4, 98, 4, 0, 0) := by decide +kernel
theorem q163_98 : am_look 163 98 = some (.imul, 99, 0, 0, 0) := by decide +kernel
theorem q163_99 : am_look 163 99 = some (.iadd, 100, 0, 0, 0) := by decide +kernel
theorem q163_100 : am_look 163 100 = some (.iconst 1, 101, 0, 0, 1) := by decide +kernel
theorem q163_101 : am_look 163 101 = some (.iadd, 102, 0, 0, 0) := by decide +kernel
theorem q163_102 : am_look 163 102 = some (.iload_n 2, 103, 2, 0, 0) := by decide +kernel
theorem q163_103 : am_look 163 103 = some (.iastore, 104, 0, 0, 0) := by decide +kernel
theorem q163_104 : am_look 163 104 = some (.aload_n 0, 105, 0, 0, 0) := by decide +kernel
theorem q163_105 : am_look 163 105 = some (.getfield 7, 108, 768, 0, 0) := by decide +kernel
theorem q163_108 : am_look 163 108 = some (.sipush 190, 111, 0, 0, 190) := by decide +kernel
theorem q163_111 : am_look 163 111 = some (.iconst 3, 112, 0, 0, 3) := by decide +kernel
theorem q163_112 : am_look 163 112 = some (.iload 4, 114, 4, 0, 0) := by decide +kernel
theorem q163_114 : am_look 163 114 = some (.imul, 115, 0, 0, 0) := by decide +kernel
theorem q163_115 : am_look 163 115 = some (.iadd, 116, 0, 0, 0) := by decide +kernel
theorem q163_116 : am_look 163 116 = some (.iconst 2, 117, 0, 0, 2) := by decide +kernel
theorem q163_117 : am_look 163 117 = some (.iadd, 118, 0, 0, 0) := by decide +kernel
theorem q163_118 : am_look 163 118 = some (.iload_n 3, 119, 3, 0, 0) := by decide +kernel
theorem q163_119 : am_look 163 119 = some (.iastore, 120, 0, 0, 0) := by decide +kernel
theorem q163_120 : am_look 163 120 = some (.iload 4, 122, 4, 0, 0) := by decide +kernel
theorem q163_122 : am_look 163 122 = some (.ireturn, 123, 0, 0, 0) := by decide +kernel
theorem zb163 : am_zb 163 = false := by decide +kernel
theorem ml163 : am_ml 163 = 5 := by decide +kernel
theorem np163 : am_np 163 + (if am_sc 163 then 0 else 1) = 4 := by decide +kernel
theorem st163 {d : Nat} {h h1 : am_H} {r : Option am_V} (p0 : Nat) (a1 : Int) (a2 : Int) (a3 : Int) (H : am_x (am_cd d) 163 (fun r2 h2 => r2 = r ∧ h2 = h1) 0 0 [some (.inr (.inr p0)), some (.inl a1), some (.inl a2), some (.inl a3), none] [] h) : am_cd (d + 1) 163 [.inr (.inr p0), .inl a1, .inl a2, .inl a3] h r h1 := by
  refine ⟨⟨by rw [ml163]; simp [am_en], by rw [np163]; rfl⟩, ?_⟩
  rw [ml163]; exact H
theorem q164_0 : am_look 164 0 = some (.aload_n 0, 1, 0, 0, 0) := by decide +kernel
theorem q164_1 : am_look 164 1 = some (.iload_n 1, 2, 1, 0, 0) := by decide +kernel
theorem q164_2 : am_look 164 2 = some (.invokevirtual 128, 5, 115, 2, 12) := by decide +kernel
theorem q164_5 : am_look 164 5 = some (.ifCond .eq 18, 8, 23, 0, 0) := by decide +kernel
theorem q164_8 : am_look 164 8 = some (.iload_n 2, 9, 2, 0, 0) := by decide +kernel
theorem q164_9 : am_look 164 9 = some (.iconst (-1), 10, 0, 0, (-1)) := by decide +kernel
theorem q164_10 : am_look 164 10 = some (.aload_n 0, 11, 0, 0, 0) := by decide +kernel
theorem q164_11 : am_look 164 11 = some (.iload_n 1, 12, 1, 0, 0) := by decide +kernel
theorem q164_12 : am_look 164 12 = some (.invokevirtual 122, 15, 80, 2, 12) := by decide +kernel
theorem q164_15 : am_look 164 15 = some (.iconst 1, 16, 0, 0, 1) := by decide +kernel
theorem q164_16 : am_look 164 16 = some (.isub, 17, 0, 0, 0) := by decide +kernel
theorem q164_17 : am_look 164 17 = some (.invokestatic 83, 20, 73, 3, 99) := by decide +kernel
theorem q164_20 : am_look 164 20 = some (.ifCond .ne 10, 23, 30, 0, 0) := by decide +kernel
theorem q164_23 : am_look 164 23 = some (.aload_n 0, 24, 0, 0, 0) := by decide +kernel
theorem q164_24 : am_look 164 24 = some (.ldc 95, 26, 0, 0, (-100001)) := by decide +kernel
theorem q164_26 : am_look 164 26 = some (.invokevirtual 91, 29, 74, 2, 12) := by decide +kernel
theorem q164_29 : am_look 164 29 = some (.ireturn, 30, 0, 0, 0) := by decide +kernel
theorem q164_30 : am_look 164 30 = some (.iload_n 2, 31, 2, 0, 0) := by decide +kernel
theorem q164_31 : am_look 164 31 = some (.ifCond .ge 11, 34, 42, 0, 0) := by decide +kernel
theorem q164_34 : am_look 164 34 = some (.aload_n 0, 35, 0, 0, 0) := by decide +kernel
theorem q164_35 : am_look 164 35 = some (.iload_n 1, 36, 1, 0, 0) := by decide +kernel
theorem q164_36 : am_look 164 36 = some (.invokevirtual 122, 39, 80, 2, 12) := by decide +kernel
theorem q164_39 : am_look 164 39 = some (.goto 9, 42, 48, 0, 0) := by decide +kernel
theorem q164_42 : am_look 164 42 = some (.aload_n 0, 43, 0, 0, 0) := by decide +kernel
theorem q164_43 : am_look 164 43 = some (.iload_n 1, 44, 1, 0, 0) := by decide +kernel
theorem q164_44 : am_look 164 44 = some (.iload_n 2, 45, 2, 0, 0) := by decide +kernel
theorem q164_45 : am_look 164 45 = some (.invokevirtual 125, 48, 79, 3, 12) := by decide +kernel
theorem q164_48 : am_look 164 48 = some (.ireturn, 49, 0, 0, 0) := by decide +kernel
theorem zb164 : am_zb 164 = false := by decide +kernel
theorem ml164 : am_ml 164 = 3 := by decide +kernel
theorem np164 : am_np 164 + (if am_sc 164 then 0 else 1) = 3 := by decide +kernel
theorem st164 {d : Nat} {h h1 : am_H} {r : Option am_V} (p0 : Nat) (a1 : Int) (a2 : Int) (H : am_x (am_cd d) 164 (fun r2 h2 => r2 = r ∧ h2 = h1) 0 0 [some (.inr (.inr p0)), some (.inl a1), some (.inl a2)] [] h) : am_cd (d + 1) 164 [.inr (.inr p0), .inl a1, .inl a2] h r h1 := by
  refine ⟨⟨by rw [ml164]; simp [am_en], by rw [np164]; rfl⟩, ?_⟩
  rw [ml164]; exact H
theorem q165_0 : am_look 165 0 = some (.aload_n 0, 1, 0, 0, 0) := by decide +kernel
theorem q165_1 : am_look 165 1 = some (.iload_n 1, 2, 1, 0, 0) := by decide +kernel
theorem q165_2 : am_look 165 2 = some (.invokevirtual 128, 5, 115, 2, 12) := by decide +kernel
theorem q165_5 : am_look 165 5 = some (.ifCond .eq 20, 8, 25, 0, 0) := by decide +kernel
theorem q165_8 : am_look 165 8 = some (.aload_n 0, 9, 0, 0, 0) := by decide +kernel
theorem q165_9 : am_look 165 9 = some (.iload_n 2, 10, 2, 0, 0) := by decide +kernel
theorem q165_10 : am_look 165 10 = some (.invokevirtual 128, 13, 115, 2, 12) := by decide +kernel
theorem q165_13 : am_look 165 13 = some (.ifCond .eq 12, 16, 25, 0, 0) := by decide +kernel
theorem q165_16 : am_look 165 16 = some (.aload_n 0, 17, 0, 0, 0) := by decide +kernel
theorem q165_17 : am_look 165 17 = some (.iload_n 1, 18, 1, 0, 0) := by decide +kernel
theorem q165_18 : am_look 165 18 = some (.iload_n 2, 19, 2, 0, 0) := by decide +kernel
theorem q165_19 : am_look 165 19 = some (.invokevirtual 131, 22, 124, 3, 12) := by decide +kernel
theorem q165_22 : am_look 165 22 = some (.goto 9, 25, 31, 0, 0) := by decide +kernel
theorem q165_25 : am_look 165 25 = some (.aload_n 0, 26, 0, 0, 0) := by decide +kernel
theorem q165_26 : am_look 165 26 = some (.ldc 95, 28, 0, 0, (-100001)) := by decide +kernel
theorem q165_28 : am_look 165 28 = some (.invokevirtual 91, 31, 74, 2, 12) := by decide +kernel
theorem q165_31 : am_look 165 31 = some (.ireturn, 32, 0, 0, 0) := by decide +kernel
theorem zb165 : am_zb 165 = false := by decide +kernel
theorem ml165 : am_ml 165 = 3 := by decide +kernel
theorem np165 : am_np 165 + (if am_sc 165 then 0 else 1) = 3 := by decide +kernel
theorem st165 {d : Nat} {h h1 : am_H} {r : Option am_V} (p0 : Nat) (a1 : Int) (a2 : Int) (H : am_x (am_cd d) 165 (fun r2 h2 => r2 = r ∧ h2 = h1) 0 0 [some (.inr (.inr p0)), some (.inl a1), some (.inl a2)] [] h) : am_cd (d + 1) 165 [.inr (.inr p0), .inl a1, .inl a2] h r h1 := by
  refine ⟨⟨by rw [ml165]; simp [am_en], by rw [np165]; rfl⟩, ?_⟩
  rw [ml165]; exact H
theorem q166_0 : am_look 166 0 = some (.iload_n 1, 1, 1, 0, 0) := by decide +kernel
theorem q166_1 : am_look 166 1 = some (.iconst 0, 2, 0, 0, 0) := by decide +kernel
theorem q166_2 : am_look 166 2 = some (.aload_n 0, 3, 0, 0, 0) := by decide +kernel
theorem q166_3 : am_look 166 3 = some (.getfield 7, 6, 768, 0, 0) := by decide +kernel
theorem q166_6 : am_look 166 6 = some (.iconst 1, 7, 0, 0, 1) := by decide +kernel
theorem q166_7 : am_look 166 7 = some (.iaload, 8, 0, 0, 0) := by decide +kernel
theorem q166_8 : am_look 166 8 = some (.iconst 1, 9, 0, 0, 1) := by decide +kernel
theorem q166_9 : am_look 166 9 = some (.isub, 10, 0, 0, 0) := by decide +kernel
theorem q166_10 : am_look 166 10 = some (.invokestatic 83, 13, 73, 3, 99) := by decide +kernel
theorem q166_13 : am_look 166 13 = some (.ifCond .eq 18, 16, 31, 0, 0) := by decide +kernel
theorem q166_16 : am_look 166 16 = some (.iload_n 2, 17, 2, 0, 0) := by decide +kernel
theorem q166_17 : am_look 166 17 = some (.invokestatic 134, 20, 116, 1, 99) := by decide +kernel
theorem q166_20 : am_look 166 20 = some (.ifCond .eq 11, 23, 31, 0, 0) := by decide +kernel
theorem q166_23 : am_look 166 23 = some (.aload_n 0, 24, 0, 0, 0) := by decide +kernel
theorem q166_24 : am_look 166 24 = some (.iload_n 3, 25, 3, 0, 0) := by decide +kernel
theorem q166_25 : am_look 166 25 = some (.invokevirtual 128, 28, 115, 2, 12) := by decide +kernel
theorem q166_28 : am_look 166 28 = some (.ifCond .ne 10, 31, 38, 0, 0) := by decide +kernel
theorem q166_31 : am_look 166 31 = some (.aload_n 0, 32, 0, 0, 0) := by decide +kernel
theorem q166_32 : am_look 166 32 = some (.ldc 95, 34, 0, 0, (-100001)) := by decide +kernel
theorem q166_34 : am_look 166 34 = some (.invokevirtual 91, 37, 74, 2, 12) := by decide +kernel
theorem q166_37 : am_look 166 37 = some (.ireturn, 38, 0, 0, 0) := by decide +kernel
theorem q166_38 : am_look 166 38 = some (.aload_n 0, 39, 0, 0, 0) := by decide +kernel
theorem q166_39 : am_look 166 39 = some (.getfield 7, 42, 768, 0, 0) := by decide +kernel
theorem q166_42 : am_look 166 42 = some (.iconst 3, 43, 0, 0, 3) := by decide +kernel
theorem q166_43 : am_look 166 43 = some (.iaload, 44, 0, 0, 0) := by decide +kernel
theorem q166_44 : am_look 166 44 = some (.bipush 60, 46, 0, 0, 60) := by decide +kernel
theorem q166_46 : am_look 166 46 = some (.if_icmp .ne 10, 49, 56, 0, 0) := by decide +kernel
theorem q166_49 : am_look 166 49 = some (.aload_n 0, 50, 0, 0, 0) := by decide +kernel
theorem q166_50 : am_look 166 50 = some (.ldc 96, 52, 0, 0, (-100005)) := by decide +kernel
theorem q166_52 : am_look 166 52 = some (.invokevirtual 91, 55, 74, 2, 12) := by decide +kernel
theorem q166_55 : am_look 166 55 = some (.ireturn, 56, 0, 0, 0) := by decide +kernel
theorem q166_56 : am_look 166 56 = some (.aload_n 0, 57, 0, 0, 0) := by decide +kernel
theorem q166_57 : am_look 166 57 = some (.invokevirtual 97, 60, 77, 1, 12) := by decide +kernel
theorem q166_60 : am_look 166 60 = some (.aload_n 0, 61, 0, 0, 0) := by decide +kernel
theorem q166_61 : am_look 166 61 = some (.getfield 7, 64, 768, 0, 0) := by decide +kernel
theorem q166_64 : am_look 166 64 = some (.iconst 3, 65, 0, 0, 3) := by decide +kernel
theorem q166_65 : am_look 166 65 = some (.iaload, 66, 0, 0, 0) := by decide +kernel
theorem q166_66 : am_look 166 66 = some (.istore 4, 68, 4, 0, 0) := by decide +kernel
theorem q166_68 : am_look 166 68 = some (.sipush 520, 71, 0, 0, 520) := by decide +kernel
theorem q166_71 : am_look 166 71 = some (.iconst 5, 72, 0, 0, 5) := by decide +kernel
theorem q166_72 : am_look 166 72 = some (.iload 4, 74, 4, 0, 0) := by decide +kernel
theorem q166_74 : am_look 166 74 = some (.imul, 75, 0, 0, 0) := by decide +kernel
theorem q166_75 : am_look 166 75 = some (.iadd, 76, 0, 0, 0) := by decide +kernel
theorem q166_76 : am_look 166 76 = some (.istore 5, 78, 5, 0, 0) := by decide +kernel
theorem q166_78 : am_look 166 78 = some (.aload_n 0, 79, 0, 0, 0) := by decide +kernel
theorem q166_79 : am_look 166 79 = some (.getfield 7, 82, 768, 0, 0) := by decide +kernel
theorem q166_82 : am_look 166 82 = some (.iconst 3, 83, 0, 0, 3) := by decide +kernel
theorem q166_83 : am_look 166 83 = some (.dup2, 84, 0, 0, 0) := by decide +kernel
theorem q166_84 : am_look 166 84 = some (.iaload, 85, 0, 0, 0) := by decide +kernel
theorem q166_85 : am_look 166 85 = some (.iconst 1, 86, 0, 0, 1) := by decide +kernel
theorem q166_86 : am_look 166 86 = some (.iadd, 87, 0, 0, 0) := by decide +kernel
theorem q166_87 : am_look 166 87 = some (.iastore, 88, 0, 0, 0) := by decide +kernel
theorem q166_88 : am_look 166 88 = some (.aload_n 0, 89, 0, 0, 0) := by decide +kernel
theorem q166_89 : am_look 166 89 = some (.getfield 7, 92, 768, 0, 0) := by decide +kernel
theorem q166_92 : am_look 166 92 = some (.iload 5, 94, 5, 0, 0) := by decide +kernel
theorem q166_94 : am_look 166 94 = some (.iload_n 1, 95, 1, 0, 0) := by decide +kernel
theorem q166_95 : am_look 166 95 = some (.iastore, 96, 0, 0, 0) := by decide +kernel
theorem q166_96 : am_look 166 96 = some (.aload_n 0, 97, 0, 0, 0) := by decide +kernel
theorem q166_97 : am_look 166 97 = some (.getfield 7, 100, 768, 0, 0) := by decide +kernel
theorem q166_100 : am_look 166 100 = some (.iload 5, 102, 5, 0, 0) := by decide +kernel
theorem q166_102 : am_look 166 102 = some (.iconst 1, 103, 0, 0, 1) := by decide +kernel
theorem q166_103 : am_look 166 103 = some (.iadd, 104, 0, 0, 0) := by decide +kernel
theorem q166_104 : am_look 166 104 = some (.iload_n 2, 105, 2, 0, 0) := by decide +kernel
theorem q166_105 : am_look 166 105 = some (.iastore, 106, 0, 0, 0) := by decide +kernel
theorem q166_106 : am_look 166 106 = some (.aload_n 0, 107, 0, 0, 0) := by decide +kernel
theorem q166_107 : am_look 166 107 = some (.getfield 7, 110, 768, 0, 0) := by decide +kernel
theorem q166_110 : am_look 166 110 = some (.iload 5, 112, 5, 0, 0) := by decide +kernel
theorem q166_112 : am_look 166 112 = some (.iconst 2, 113, 0, 0, 2) := by decide +kernel
theorem q166_113 : am_look 166 113 = some (.iadd, 114, 0, 0, 0) := by decide +kernel
theorem q166_114 : am_look 166 114 = some (.iload_n 3, 115, 3, 0, 0) := by decide +kernel
theorem q166_115 : am_look 166 115 = some (.iastore, 116, 0, 0, 0) := by decide +kernel
theorem q166_116 : am_look 166 116 = some (.aload_n 0, 117, 0, 0, 0) := by decide +kernel
theorem q166_117 : am_look 166 117 = some (.getfield 7, 120, 768, 0, 0) := by decide +kernel
theorem q166_120 : am_look 166 120 = some (.iload 5, 122, 5, 0, 0) := by decide +kernel
theorem q166_122 : am_look 166 122 = some (.iconst 3, 123, 0, 0, 3) := by decide +kernel
theorem q166_123 : am_look 166 123 = some (.iadd, 124, 0, 0, 0) := by decide +kernel
theorem q166_124 : am_look 166 124 = some (.aload_n 0, 125, 0, 0, 0) := by decide +kernel
theorem q166_125 : am_look 166 125 = some (.getfield 7, 128, 768, 0, 0) := by decide +kernel
theorem q166_128 : am_look 166 128 = some (.iconst 4, 129, 0, 0, 4) := by decide +kernel
theorem q166_129 : am_look 166 129 = some (.iaload, 130, 0, 0, 0) := by decide +kernel
theorem q166_130 : am_look 166 130 = some (.iastore, 131, 0, 0, 0) := by decide +kernel
theorem q166_131 : am_look 166 131 = some (.aload_n 0, 132, 0, 0, 0) := by decide +kernel
theorem q166_132 : am_look 166 132 = some (.getfield 7, 135, 768, 0, 0) := by decide +kernel
theorem q166_135 : am_look 166 135 = some (.iload 5, 137, 5, 0, 0) := by decide +kernel
theorem q166_137 : am_look 166 137 = some (.iconst 4, 138, 0, 0, 4) := by decide +kernel
theorem q166_138 : am_look 166 138 = some (.iadd, 139, 0, 0, 0) := by decide +kernel
theorem q166_139 : am_look 166 139 = some (.iconst (-1), 140, 0, 0, (-1)) := by decide +kernel
theorem q166_140 : am_look 166 140 = some (.iastore, 141, 0, 0, 0) := by decide +kernel
theorem q166_141 : am_look 166 141 = some (.iload 4, 143, 4, 0, 0) := by decide +kernel
theorem q166_143 : am_look 166 143 = some (.ireturn, 144, 0, 0, 0) := by decide +kernel
theorem zb166 : am_zb 166 = false := by decide +kernel
theorem ml166 : am_ml 166 = 6 := by decide +kernel
theorem np166 : am_np 166 + (if am_sc 166 then 0 else 1) = 4 := by decide +kernel
theorem st166 {d : Nat} {h h1 : am_H} {r : Option am_V} (p0 : Nat) (a1 : Int) (a2 : Int) (a3 : Int) (H : am_x (am_cd d) 166 (fun r2 h2 => r2 = r ∧ h2 = h1) 0 0 [some (.inr (.inr p0)), some (.inl a1), some (.inl a2), some (.inl a3), none, none] [] h) : am_cd (d + 1) 166 [.inr (.inr p0), .inl a1, .inl a2, .inl a3] h r h1 := by
  refine ⟨⟨by rw [ml166]; simp [am_en], by rw [np166]; rfl⟩, ?_⟩
  rw [ml166]; exact H
theorem q167_0 : am_look 167 0 = some (.iconst 0, 1, 0, 0, 0) := by decide +kernel
theorem q167_1 : am_look 167 1 = some (.istore_n 2, 2, 2, 0, 0) := by decide +kernel
theorem q167_2 : am_look 167 2 = some (.iload_n 2, 3, 2, 0, 0) := by decide +kernel
theorem q167_3 : am_look 167 3 = some (.bipush 120, 5, 0, 0, 120) := by decide +kernel
theorem q167_5 : am_look 167 5 = some (.if_icmp .ge 16, 8, 21, 0, 0) := by decide +kernel
theorem q167_8 : am_look 167 8 = some (.aload_n 0, 9, 0, 0, 0) := by decide +kernel
theorem q167_9 : am_look 167 9 = some (.getfield 22, 12, 774, 6, 0) := by decide +kernel
theorem q167_12 : am_look 167 12 = some (.iload_n 2, 13, 2, 0, 0) := by decide +kernel
theorem q167_13 : am_look 167 13 = some (.iconst (-1), 14, 0, 0, (-1)) := by decide +kernel
theorem q167_14 : am_look 167 14 = some (.iastore, 15, 0, 0, 0) := by decide +kernel
theorem q167_15 : am_look 167 15 = some (.iinc 2 1, 18, 2, 0, 1) := by decide +kernel
theorem q167_18 : am_look 167 18 = some (.goto (-16), 21, 2, 0, 0) := by decide +kernel
theorem q167_21 : am_look 167 21 = some (.iconst 0, 22, 0, 0, 0) := by decide +kernel
theorem q167_22 : am_look 167 22 = some (.istore_n 2, 23, 2, 0, 0) := by decide +kernel
theorem q167_23 : am_look 167 23 = some (.iload_n 2, 24, 2, 0, 0) := by decide +kernel
theorem q167_24 : am_look 167 24 = some (.aload_n 0, 25, 0, 0, 0) := by decide +kernel
theorem q167_25 : am_look 167 25 = some (.getfield 7, 28, 768, 0, 0) := by decide +kernel
theorem q167_28 : am_look 167 28 = some (.iconst 3, 29, 0, 0, 3) := by decide +kernel
theorem q167_29 : am_look 167 29 = some (.iaload, 30, 0, 0, 0) := by decide +kernel
theorem q167_30 : am_look 167 30 = some (.if_icmp .ge 76, 33, 106, 0, 0) := by decide +kernel
theorem q167_33 : am_look 167 33 = some (.sipush 520, 36, 0, 0, 520) := by decide +kernel
theorem q167_36 : am_look 167 36 = some (.iconst 5, 37, 0, 0, 5) := by decide +kernel
theorem q167_37 : am_look 167 37 = some (.iload_n 2, 38, 2, 0, 0) := by decide +kernel
theorem q167_38 : am_look 167 38 = some (.imul, 39, 0, 0, 0) := by decide +kernel
theorem q167_39 : am_look 167 39 = some (.iadd, 40, 0, 0, 0) := by decide +kernel
theorem q167_40 : am_look 167 40 = some (.istore_n 3, 41, 3, 0, 0) := by decide +kernel
theorem q167_41 : am_look 167 41 = some (.aload_n 0, 42, 0, 0, 0) := by decide +kernel
theorem q167_42 : am_look 167 42 = some (.getfield 7, 45, 768, 0, 0) := by decide +kernel
theorem q167_45 : am_look 167 45 = some (.iload_n 3, 46, 3, 0, 0) := by decide +kernel
theorem q167_46 : am_look 167 46 = some (.iconst 3, 47, 0, 0, 3) := by decide +kernel
theorem q167_47 : am_look 167 47 = some (.iadd, 48, 0, 0, 0) := by decide +kernel
theorem q167_48 : am_look 167 48 = some (.iaload, 49, 0, 0, 0) := by decide +kernel
theorem q167_49 : am_look 167 49 = some (.iload_n 1, 50, 1, 0, 0) := by decide +kernel
theorem q167_50 : am_look 167 50 = some (.if_icmp .gt 50, 53, 100, 0, 0) := by decide +kernel
theorem q167_53 : am_look 167 53 = some (.aload_n 0, 54, 0, 0, 0) := by decide +kernel
theorem q167_54 : am_look 167 54 = some (.getfield 7, 57, 768, 0, 0) := by decide +kernel
theorem q167_57 : am_look 167 57 = some (.iload_n 3, 58, 3, 0, 0) := by decide +kernel
theorem q167_58 : am_look 167 58 = some (.iconst 4, 59, 0, 0, 4) := by decide +kernel
theorem q167_59 : am_look 167 59 = some (.iadd, 60, 0, 0, 0) := by decide +kernel
theorem q167_60 : am_look 167 60 = some (.iaload, 61, 0, 0, 0) := by decide +kernel
theorem q167_61 : am_look 167 61 = some (.iconst 0, 62, 0, 0, 0) := by decide +kernel
theorem q167_62 : am_look 167 62 = some (.iload_n 1, 63, 1, 0, 0) := by decide +kernel
theorem q167_63 : am_look 167 63 = some (.invokestatic 83, 66, 73, 3, 99) := by decide +kernel
theorem q167_66 : am_look 167 66 = some (.ifCond .ne 34, 69, 100, 0, 0) := by decide +kernel
theorem q167_69 : am_look 167 69 = some (.aload_n 0, 70, 0, 0, 0) := by decide +kernel
theorem q167_70 : am_look 167 70 = some (.getfield 22, 73, 774, 6, 0) := by decide +kernel
theorem q167_73 : am_look 167 73 = some (.bipush 6, 75, 0, 0, 6) := by decide +kernel
theorem q167_75 : am_look 167 75 = some (.aload_n 0, 76, 0, 0, 0) := by decide +kernel
theorem q167_76 : am_look 167 76 = some (.getfield 7, 79, 768, 0, 0) := by decide +kernel
theorem q167_79 : am_look 167 79 = some (.iload_n 3, 80, 3, 0, 0) := by decide +kernel
theorem q167_80 : am_look 167 80 = some (.iaload, 81, 0, 0, 0) := by decide +kernel
theorem q167_81 : am_look 167 81 = some (.imul, 82, 0, 0, 0) := by decide +kernel
theorem q167_82 : am_look 167 82 = some (.aload_n 0, 83, 0, 0, 0) := by decide +kernel
theorem q167_83 : am_look 167 83 = some (.getfield 7, 86, 768, 0, 0) := by decide +kernel
theorem q167_86 : am_look 167 86 = some (.iload_n 3, 87, 3, 0, 0) := by decide +kernel
theorem q167_87 : am_look 167 87 = some (.iconst 1, 88, 0, 0, 1) := by decide +kernel
theorem q167_88 : am_look 167 88 = some (.iadd, 89, 0, 0, 0) := by decide +kernel
theorem q167_89 : am_look 167 89 = some (.iaload, 90, 0, 0, 0) := by decide +kernel
theorem q167_90 : am_look 167 90 = some (.iadd, 91, 0, 0, 0) := by decide +kernel
theorem q167_91 : am_look 167 91 = some (.aload_n 0, 92, 0, 0, 0) := by decide +kernel
theorem q167_92 : am_look 167 92 = some (.getfield 7, 95, 768, 0, 0) := by decide +kernel
theorem q167_95 : am_look 167 95 = some (.iload_n 3, 96, 3, 0, 0) := by decide +kernel
theorem q167_96 : am_look 167 96 = some (.iconst 2, 97, 0, 0, 2) := by decide +kernel
theorem q167_97 : am_look 167 97 = some (.iadd, 98, 0, 0, 0) := by decide +kernel
theorem q167_98 : am_look 167 98 = some (.iaload, 99, 0, 0, 0) := by decide +kernel
theorem q167_99 : am_look 167 99 = some (.iastore, 100, 0, 0, 0) := by decide +kernel
theorem q167_100 : am_look 167 100 = some (.iinc 2 1, 103, 2, 0, 1) := by decide +kernel
theorem q167_103 : am_look 167 103 = some (.goto (-80), 106, 23, 0, 0) := by decide +kernel
theorem q167_106 : am_look 167 106 = some (.iconst 0, 107, 0, 0, 0) := by decide +kernel
theorem q167_107 : am_look 167 107 = some (.istore_n 2, 108, 2, 0, 0) := by decide +kernel
theorem q167_108 : am_look 167 108 = some (.iload_n 2, 109, 2, 0, 0) := by decide +kernel
theorem q167_109 : am_look 167 109 = some (.aload_n 0, 110, 0, 0, 0) := by decide +kernel
theorem q167_110 : am_look 167 110 = some (.getfield 7, 113, 768, 0, 0) := by decide +kernel
theorem q167_113 : am_look 167 113 = some (.iconst 0, 114, 0, 0, 0) := by decide +kernel
theorem q167_114 : am_look 167 114 = some (.iaload, 115, 0, 0, 0) := by decide +kernel
theorem q167_115 : am_look 167 115 = some (.if_icmp .ge 95, 118, 210, 0, 0) := by decide +kernel
theorem q167_118 : am_look 167 118 = some (.iconst 0, 119, 0, 0, 0) := by decide +kernel
theorem q167_119 : am_look 167 119 = some (.istore_n 3, 120, 3, 0, 0) := by decide +kernel
theorem q167_120 : am_look 167 120 = some (.iload_n 3, 121, 3, 0, 0) := by decide +kernel
theorem q167_121 : am_look 167 121 = some (.bipush 6, 123, 0, 0, 6) := by decide +kernel
theorem q167_123 : am_look 167 123 = some (.if_icmp .ge 81, 126, 204, 0, 0) := by decide +kernel
theorem q167_126 : am_look 167 126 = some (.iconst 0, 127, 0, 0, 0) := by decide +kernel
theorem q167_127 : am_look 167 127 = some (.istore 4, 129, 4, 0, 0) := by decide +kernel
theorem q167_129 : am_look 167 129 = some (.aload_n 0, 130, 0, 0, 0) := by decide +kernel
theorem q167_130 : am_look 167 130 = some (.getfield 25, 133, 775, 7, 0) := by decide +kernel
theorem q167_133 : am_look 167 133 = some (.bipush 6, 135, 0, 0, 6) := by decide +kernel
theorem q167_135 : am_look 167 135 = some (.iload_n 2, 136, 2, 0, 0) := by decide +kernel
theorem q167_136 : am_look 167 136 = some (.imul, 137, 0, 0, 0) := by decide +kernel
theorem q167_137 : am_look 167 137 = some (.iload_n 3, 138, 3, 0, 0) := by decide +kernel
theorem q167_138 : am_look 167 138 = some (.iadd, 139, 0, 0, 0) := by decide +kernel
theorem q167_139 : am_look 167 139 = some (.iconst (-1), 140, 0, 0, (-1)) := by decide +kernel
theorem q167_140 : am_look 167 140 = some (.iastore, 141, 0, 0, 0) := by decide +kernel
theorem q167_141 : am_look 167 141 = some (.iconst 0, 142, 0, 0, 0) := by decide +kernel
theorem q167_142 : am_look 167 142 = some (.istore 5, 144, 5, 0, 0) := by decide +kernel
theorem q167_144 : am_look 167 144 = some (.iload 5, 146, 5, 0, 0) := by decide +kernel
theorem q167_146 : am_look 167 146 = some (.aload_n 0, 147, 0, 0, 0) := by decide +kernel
theorem q167_147 : am_look 167 147 = some (.getfield 7, 150, 768, 0, 0) := by decide +kernel
theorem q167_150 : am_look 167 150 = some (.iconst 2, 151, 0, 0, 2) := by decide +kernel
theorem q167_151 : am_look 167 151 = some (.iaload, 152, 0, 0, 0) := by decide +kernel
theorem q167_152 : am_look 167 152 = some (.if_icmp .ge 46, 155, 198, 0, 0) := by decide +kernel
theorem q167_155 : am_look 167 155 = some (.aload_n 0, 156, 0, 0, 0) := by decide +kernel
theorem q167_156 : am_look 167 156 = some (.iload_n 2, 157, 2, 0, 0) := by decide +kernel
theorem q167_157 : am_look 167 157 = some (.iload_n 3, 158, 3, 0, 0) := by decide +kernel
theorem q167_158 : am_look 167 158 = some (.iload 5, 160, 5, 0, 0) := by decide +kernel
theorem q167_160 : am_look 167 160 = some (.invokevirtual 138, 163, 127, 4, 12) := by decide +kernel
theorem q167_163 : am_look 167 163 = some (.istore 6, 165, 6, 0, 0) := by decide +kernel
theorem q167_165 : am_look 167 165 = some (.iload 6, 167, 6, 0, 0) := by decide +kernel
theorem q167_167 : am_look 167 167 = some (.iload 4, 169, 4, 0, 0) := by decide +kernel
theorem q167_169 : am_look 167 169 = some (.if_icmp .gt 6, 172, 175, 0, 0) := by decide +kernel
theorem q167_172 : am_look 167 172 = some (.goto 20, 175, 192, 0, 0) := by decide +kernel
theorem q167_175 : am_look 167 175 = some (.iload 6, 177, 6, 0, 0) := by decide +kernel
theorem q167_177 : am_look 167 177 = some (.istore 4, 179, 4, 0, 0) := by decide +kernel
theorem q167_179 : am_look 167 179 = some (.aload_n 0, 180, 0, 0, 0) := by decide +kernel
theorem q167_180 : am_look 167 180 = some (.getfield 25, 183, 775, 7, 0) := by decide +kernel
theorem q167_183 : am_look 167 183 = some (.bipush 6, 185, 0, 0, 6) := by decide +kernel
theorem q167_185 : am_look 167 185 = some (.iload_n 2, 186, 2, 0, 0) := by decide +kernel
theorem q167_186 : am_look 167 186 = some (.imul, 187, 0, 0, 0) := by decide +kernel
theorem q167_187 : am_look 167 187 = some (.iload_n 3, 188, 3, 0, 0) := by decide +kernel
theorem q167_188 : am_look 167 188 = some (.iadd, 189, 0, 0, 0) := by decide +kernel
theorem q167_189 : am_look 167 189 = some (.iload 5, 191, 5, 0, 0) := by decide +kernel
theorem q167_191 : am_look 167 191 = some (.iastore, 192, 0, 0, 0) := by decide +kernel
theorem q167_192 : am_look 167 192 = some (.iinc 5 1, 195, 5, 0, 1) := by decide +kernel
theorem q167_195 : am_look 167 195 = some (.goto (-51), 198, 144, 0, 0) := by decide +kernel
theorem q167_198 : am_look 167 198 = some (.iinc 3 1, 201, 3, 0, 1) := by decide +kernel
theorem q167_201 : am_look 167 201 = some (.goto (-81), 204, 120, 0, 0) := by decide +kernel
theorem q167_204 : am_look 167 204 = some (.iinc 2 1, 207, 2, 0, 1) := by decide +kernel
theorem q167_207 : am_look 167 207 = some (.goto (-99), 210, 108, 0, 0) := by decide +kernel
theorem q167_210 : am_look 167 210 = some (.return_, 211, 0, 0, 0) := by decide +kernel
theorem zb167 : am_zb 167 = false := by decide +kernel
theorem ml167 : am_ml 167 = 7 := by decide +kernel
theorem np167 : am_np 167 + (if am_sc 167 then 0 else 1) = 2 := by decide +kernel
theorem st167 {d : Nat} {h h1 : am_H} {r : Option am_V} (p0 : Nat) (a1 : Int) (H : am_x (am_cd d) 167 (fun r2 h2 => r2 = r ∧ h2 = h1) 0 0 [some (.inr (.inr p0)), some (.inl a1), none, none, none, none, none] [] h) : am_cd (d + 1) 167 [.inr (.inr p0), .inl a1] h r h1 := by
  refine ⟨⟨by rw [ml167]; simp [am_en], by rw [np167]; rfl⟩, ?_⟩
  rw [ml167]; exact H
theorem q168_0 : am_look 168 0 = some (.aload_n 0, 1, 0, 0, 0) := by decide +kernel
theorem q168_1 : am_look 168 1 = some (.getfield 151, 4, 783, 15, 0) := by decide +kernel
theorem q168_4 : am_look 168 4 = some (.aload_n 0, 5, 0, 0, 0) := by decide +kernel
theorem q168_5 : am_look 168 5 = some (.getfield 148, 8, 782, 14, 0) := by decide +kernel
theorem q168_8 : am_look 168 8 = some (.if_icmp .ge 15, 11, 23, 0, 0) := by decide +kernel
theorem q168_11 : am_look 168 11 = some (.aload_n 0, 12, 0, 0, 0) := by decide +kernel
theorem q168_12 : am_look 168 12 = some (.getfield 28, 15, 776, 8, 0) := by decide +kernel
theorem q168_15 : am_look 168 15 = some (.aload_n 0, 16, 0, 0, 0) := by decide +kernel
theorem q168_16 : am_look 168 16 = some (.getfield 151, 19, 783, 15, 0) := by decide +kernel
theorem q168_19 : am_look 168 19 = some (.iaload, 20, 0, 0, 0) := by decide +kernel
theorem q168_20 : am_look 168 20 = some (.goto 4, 23, 24, 0, 0) := by decide +kernel
theorem q168_23 : am_look 168 23 = some (.iconst (-1), 24, 0, 0, (-1)) := by decide +kernel
theorem q168_24 : am_look 168 24 = some (.istore_n 2, 25, 2, 0, 0) := by decide +kernel
theorem q168_25 : am_look 168 25 = some (.iload_n 1, 26, 1, 0, 0) := by decide +kernel
theorem q168_26 : am_look 168 26 = some (.bipush 12, 28, 0, 0, 12) := by decide +kernel
theorem q168_28 : am_look 168 28 = some (.if_icmp .eq 14, 31, 42, 0, 0) := by decide +kernel
theorem q168_31 : am_look 168 31 = some (.iload_n 2, 32, 2, 0, 0) := by decide +kernel
theorem q168_32 : am_look 168 32 = some (.bipush 97, 34, 0, 0, 97) := by decide +kernel
theorem q168_34 : am_look 168 34 = some (.bipush 122, 36, 0, 0, 122) := by decide +kernel
theorem q168_36 : am_look 168 36 = some (.invokestatic 83, 39, 73, 3, 99) := by decide +kernel
theorem q168_39 : am_look 168 39 = some (.ifCond .ne 5, 42, 44, 0, 0) := by decide +kernel
theorem q168_42 : am_look 168 42 = some (.iconst 0, 43, 0, 0, 0) := by decide +kernel
theorem q168_43 : am_look 168 43 = some (.ireturn, 44, 0, 0, 0) := by decide +kernel
theorem q168_44 : am_look 168 44 = some (.aload_n 0, 45, 0, 0, 0) := by decide +kernel
theorem q168_45 : am_look 168 45 = some (.dup, 46, 0, 0, 0) := by decide +kernel
theorem q168_46 : am_look 168 46 = some (.getfield 151, 49, 783, 15, 0) := by decide +kernel
theorem q168_49 : am_look 168 49 = some (.iconst 1, 50, 0, 0, 1) := by decide +kernel
theorem q168_50 : am_look 168 50 = some (.iadd, 51, 0, 0, 0) := by decide +kernel
theorem q168_51 : am_look 168 51 = some (.putfield 151, 54, 783, 15, 0) := by decide +kernel
theorem q168_54 : am_look 168 54 = some (.aload_n 0, 55, 0, 0, 0) := by decide +kernel
theorem q168_55 : am_look 168 55 = some (.getfield 37, 58, 779, 11, 0) := by decide +kernel
theorem q168_58 : am_look 168 58 = some (.iconst 4, 59, 0, 0, 4) := by decide +kernel
theorem q168_59 : am_look 168 59 = some (.iload_n 1, 60, 1, 0, 0) := by decide +kernel
theorem q168_60 : am_look 168 60 = some (.imul, 61, 0, 0, 0) := by decide +kernel
theorem q168_61 : am_look 168 61 = some (.iload_n 2, 62, 2, 0, 0) := by decide +kernel
theorem q168_62 : am_look 168 62 = some (.bipush 97, 64, 0, 0, 97) := by decide +kernel
theorem q168_64 : am_look 168 64 = some (.isub, 65, 0, 0, 0) := by decide +kernel
theorem q168_65 : am_look 168 65 = some (.iastore, 66, 0, 0, 0) := by decide +kernel
theorem q168_66 : am_look 168 66 = some (.aload_n 0, 67, 0, 0, 0) := by decide +kernel
theorem q168_67 : am_look 168 67 = some (.bipush 62, 69, 0, 0, 62) := by decide +kernel
theorem q168_69 : am_look 168 69 = some (.invokevirtual 154, 72, 81, 2, 12) := by decide +kernel
theorem q168_72 : am_look 168 72 = some (.ifCond .ne 5, 75, 77, 0, 0) := by decide +kernel
theorem q168_75 : am_look 168 75 = some (.iconst 0, 76, 0, 0, 0) := by decide +kernel
theorem q168_76 : am_look 168 76 = some (.ireturn, 77, 0, 0, 0) := by decide +kernel
theorem q168_77 : am_look 168 77 = some (.aload_n 0, 78, 0, 0, 0) := by decide +kernel
theorem q168_78 : am_look 168 78 = some (.getfield 37, 81, 779, 11, 0) := by decide +kernel
theorem q168_81 : am_look 168 81 = some (.iconst 4, 82, 0, 0, 4) := by decide +kernel
theorem q168_82 : am_look 168 82 = some (.iload_n 1, 83, 1, 0, 0) := by decide +kernel
theorem q168_83 : am_look 168 83 = some (.imul, 84, 0, 0, 0) := by decide +kernel
theorem q168_84 : am_look 168 84 = some (.iconst 1, 85, 0, 0, 1) := by decide +kernel
theorem q168_85 : am_look 168 85 = some (.iadd, 86, 0, 0, 0) := by decide +kernel
theorem q168_86 : am_look 168 86 = some (.aload_n 0, 87, 0, 0, 0) := by decide +kernel
theorem q168_87 : am_look 168 87 = some (.iconst 0, 88, 0, 0, 0) := by decide +kernel
theorem q168_88 : am_look 168 88 = some (.invokevirtual 157, 91, 129, 2, 12) := by decide +kernel
theorem q168_91 : am_look 168 91 = some (.iastore, 92, 0, 0, 0) := by decide +kernel
theorem q168_92 : am_look 168 92 = some (.aload_n 0, 93, 0, 0, 0) := by decide +kernel
theorem q168_93 : am_look 168 93 = some (.getfield 37, 96, 779, 11, 0) := by decide +kernel
theorem q168_96 : am_look 168 96 = some (.iconst 4, 97, 0, 0, 4) := by decide +kernel
theorem q168_97 : am_look 168 97 = some (.iload_n 1, 98, 1, 0, 0) := by decide +kernel
theorem q168_98 : am_look 168 98 = some (.imul, 99, 0, 0, 0) := by decide +kernel
theorem q168_99 : am_look 168 99 = some (.iconst 1, 100, 0, 0, 1) := by decide +kernel
theorem q168_100 : am_look 168 100 = some (.iadd, 101, 0, 0, 0) := by decide +kernel
theorem q168_101 : am_look 168 101 = some (.iaload, 102, 0, 0, 0) := by decide +kernel
theorem q168_102 : am_look 168 102 = some (.bipush (-2), 104, 0, 0, (-2)) := by decide +kernel
theorem q168_104 : am_look 168 104 = some (.if_icmp .ne 5, 107, 109, 0, 0) := by decide +kernel
theorem q168_107 : am_look 168 107 = some (.iconst 0, 108, 0, 0, 0) := by decide +kernel
theorem q168_108 : am_look 168 108 = some (.ireturn, 109, 0, 0, 0) := by decide +kernel
theorem q168_109 : am_look 168 109 = some (.aload_n 0, 110, 0, 0, 0) := by decide +kernel
theorem q168_110 : am_look 168 110 = some (.getfield 37, 113, 779, 11, 0) := by decide +kernel
theorem q168_113 : am_look 168 113 = some (.iconst 4, 114, 0, 0, 4) := by decide +kernel
theorem q168_114 : am_look 168 114 = some (.iload_n 1, 115, 1, 0, 0) := by decide +kernel
theorem q168_115 : am_look 168 115 = some (.imul, 116, 0, 0, 0) := by decide +kernel
theorem q168_116 : am_look 168 116 = some (.iconst 2, 117, 0, 0, 2) := by decide +kernel
theorem q168_117 : am_look 168 117 = some (.iadd, 118, 0, 0, 0) := by decide +kernel
theorem q168_118 : am_look 168 118 = some (.bipush 27, 120, 0, 0, 27) := by decide +kernel
theorem q168_120 : am_look 168 120 = some (.iastore, 121, 0, 0, 0) := by decide +kernel
theorem q168_121 : am_look 168 121 = some (.aload_n 0, 122, 0, 0, 0) := by decide +kernel
theorem q168_122 : am_look 168 122 = some (.getfield 37, 125, 779, 11, 0) := by decide +kernel
theorem q168_125 : am_look 168 125 = some (.iconst 4, 126, 0, 0, 4) := by decide +kernel
theorem q168_126 : am_look 168 126 = some (.iload_n 1, 127, 1, 0, 0) := by decide +kernel
theorem q168_127 : am_look 168 127 = some (.imul, 128, 0, 0, 0) := by decide +kernel
theorem q168_128 : am_look 168 128 = some (.iconst 3, 129, 0, 0, 3) := by decide +kernel
theorem q168_129 : am_look 168 129 = some (.iadd, 130, 0, 0, 0) := by decide +kernel
theorem q168_130 : am_look 168 130 = some (.bipush 27, 132, 0, 0, 27) := by decide +kernel
theorem q168_132 : am_look 168 132 = some (.iastore, 133, 0, 0, 0) := by decide +kernel
theorem q168_133 : am_look 168 133 = some (.aload_n 0, 134, 0, 0, 0) := by decide +kernel
theorem q168_134 : am_look 168 134 = some (.bipush 47, 136, 0, 0, 47) := by decide +kernel
theorem q168_136 : am_look 168 136 = some (.invokevirtual 154, 139, 81, 2, 12) := by decide +kernel
theorem q168_139 : am_look 168 139 = some (.ifCond .eq 76, 142, 215, 0, 0) := by decide +kernel
theorem q168_142 : am_look 168 142 = some (.aload_n 0, 143, 0, 0, 0) := by decide +kernel
theorem q168_143 : am_look 168 143 = some (.getfield 37, 146, 779, 11, 0) := by decide +kernel
theorem q168_146 : am_look 168 146 = some (.iconst 4, 147, 0, 0, 4) := by decide +kernel
theorem q168_147 : am_look 168 147 = some (.iload_n 1, 148, 1, 0, 0) := by decide +kernel
theorem q168_148 : am_look 168 148 = some (.imul, 149, 0, 0, 0) := by decide +kernel
theorem q168_149 : am_look 168 149 = some (.iconst 2, 150, 0, 0, 2) := by decide +kernel
theorem q168_150 : am_look 168 150 = some (.iadd, 151, 0, 0, 0) := by decide +kernel
theorem q168_151 : am_look 168 151 = some (.aload_n 0, 152, 0, 0, 0) := by decide +kernel
theorem q168_152 : am_look 168 152 = some (.iconst 1, 153, 0, 0, 1) := by decide +kernel
theorem q168_153 : am_look 168 153 = some (.invokevirtual 157, 156, 129, 2, 12) := by decide +kernel
theorem q168_156 : am_look 168 156 = some (.iastore, 157, 0, 0, 0) := by decide +kernel
theorem q168_157 : am_look 168 157 = some (.aload_n 0, 158, 0, 0, 0) := by decide +kernel
theorem q168_158 : am_look 168 158 = some (.getfield 37, 161, 779, 11, 0) := by decide +kernel
theorem q168_161 : am_look 168 161 = some (.iconst 4, 162, 0, 0, 4) := by decide +kernel
theorem q168_162 : am_look 168 162 = some (.iload_n 1, 163, 1, 0, 0) := by decide +kernel
theorem q168_163 : am_look 168 163 = some (.imul, 164, 0, 0, 0) := by decide +kernel
theorem q168_164 : am_look 168 164 = some (.iconst 2, 165, 0, 0, 2) := by decide +kernel
theorem q168_165 : am_look 168 165 = some (.iadd, 166, 0, 0, 0) := by decide +kernel
theorem q168_166 : am_look 168 166 = some (.iaload, 167, 0, 0, 0) := by decide +kernel
theorem q168_167 : am_look 168 167 = some (.bipush (-2), 169, 0, 0, (-2)) := by decide +kernel
theorem q168_169 : am_look 168 169 = some (.if_icmp .eq 12, 172, 181, 0, 0) := by decide +kernel
theorem q168_172 : am_look 168 172 = some (.aload_n 0, 173, 0, 0, 0) := by decide +kernel
theorem q168_173 : am_look 168 173 = some (.bipush 95, 175, 0, 0, 95) := by decide +kernel
theorem q168_175 : am_look 168 175 = some (.invokevirtual 154, 178, 81, 2, 12) := by decide +kernel
theorem q168_178 : am_look 168 178 = some (.ifCond .ne 5, 181, 183, 0, 0) := by decide +kernel
theorem q168_181 : am_look 168 181 = some (.iconst 0, 182, 0, 0, 0) := by decide +kernel
theorem q168_182 : am_look 168 182 = some (.ireturn, 183, 0, 0, 0) := by decide +kernel
theorem q168_183 : am_look 168 183 = some (.aload_n 0, 184, 0, 0, 0) := by decide +kernel
theorem q168_184 : am_look 168 184 = some (.getfield 37, 187, 779, 11, 0) := by decide +kernel
theorem q168_187 : am_look 168 187 = some (.iconst 4, 188, 0, 0, 4) := by decide +kernel
theorem q168_188 : am_look 168 188 = some (.iload_n 1, 189, 1, 0, 0) := by decide +kernel
theorem q168_189 : am_look 168 189 = some (.imul, 190, 0, 0, 0) := by decide +kernel
theorem q168_190 : am_look 168 190 = some (.iconst 3, 191, 0, 0, 3) := by decide +kernel
theorem q168_191 : am_look 168 191 = some (.iadd, 192, 0, 0, 0) := by decide +kernel
theorem q168_192 : am_look 168 192 = some (.aload_n 0, 193, 0, 0, 0) := by decide +kernel
theorem q168_193 : am_look 168 193 = some (.iconst 1, 194, 0, 0, 1) := by decide +kernel
theorem q168_194 : am_look 168 194 = some (.invokevirtual 157, 197, 129, 2, 12) := by decide +kernel
theorem q168_197 : am_look 168 197 = some (.iastore, 198, 0, 0, 0) := by decide +kernel
theorem q168_198 : am_look 168 198 = some (.aload_n 0, 199, 0, 0, 0) := by decide +kernel
theorem q168_199 : am_look 168 199 = some (.getfield 37, 202, 779, 11, 0) := by decide +kernel
theorem q168_202 : am_look 168 202 = some (.iconst 4, 203, 0, 0, 4) := by decide +kernel
theorem q168_203 : am_look 168 203 = some (.iload_n 1, 204, 1, 0, 0) := by decide +kernel
theorem q168_204 : am_look 168 204 = some (.imul, 205, 0, 0, 0) := by decide +kernel
theorem q168_205 : am_look 168 205 = some (.iconst 3, 206, 0, 0, 3) := by decide +kernel
theorem q168_206 : am_look 168 206 = some (.iadd, 207, 0, 0, 0) := by decide +kernel
theorem q168_207 : am_look 168 207 = some (.iaload, 208, 0, 0, 0) := by decide +kernel
theorem q168_208 : am_look 168 208 = some (.bipush (-2), 210, 0, 0, (-2)) := by decide +kernel
theorem q168_210 : am_look 168 210 = some (.if_icmp .ne 5, 213, 215, 0, 0) := by decide +kernel
theorem q168_213 : am_look 168 213 = some (.iconst 0, 214, 0, 0, 0) := by decide +kernel
theorem q168_214 : am_look 168 214 = some (.ireturn, 215, 0, 0, 0) := by decide +kernel
theorem q168_215 : am_look 168 215 = some (.aload_n 0, 216, 0, 0, 0) := by decide +kernel
theorem q168_216 : am_look 168 216 = some (.bipush 59, 218, 0, 0, 59) := by decide +kernel
theorem q168_218 : am_look 168 218 = some (.invokevirtual 154, 221, 81, 2, 12) := by decide +kernel
theorem q168_221 : am_look 168 221 = some (.ireturn, 222, 0, 0, 0) := by decide +kernel
theorem zb168 : am_zb 168 = true := by decide +kernel
theorem ml168 : am_ml 168 = 3 := by decide +kernel
theorem np168 : am_np 168 + (if am_sc 168 then 0 else 1) = 2 := by decide +kernel
theorem st168 {d : Nat} {h h1 : am_H} {r : Option am_V} (p0 : Nat) (a1 : Int) (H : am_x (am_cd d) 168 (fun r2 h2 => r2 = r ∧ h2 = h1) 0 0 [some (.inr (.inr p0)), some (.inl a1), none] [] h) : am_cd (d + 1) 168 [.inr (.inr p0), .inl a1] h r h1 := by
  refine ⟨⟨by rw [ml168]; simp [am_en], by rw [np168]; rfl⟩, ?_⟩
  rw [ml168]; exact H
theorem q169_0 : am_look 169 0 = some (.aload_n 0, 1, 0, 0, 0) := by decide +kernel
theorem q169_1 : am_look 169 1 = some (.aload_n 0, 2, 0, 0, 0) := by decide +kernel
theorem q169_2 : am_look 169 2 = some (.iload_n 1, 3, 1, 0, 0) := by decide +kernel
theorem q169_3 : am_look 169 3 = some (.invokevirtual 122, 6, 80, 2, 12) := by decide +kernel
theorem q169_6 : am_look 169 6 = some (.putfield 164, 9, 784, 16, 0) := by decide +kernel
theorem q169_9 : am_look 169 9 = some (.iconst 0, 10, 0, 0, 0) := by decide +kernel
theorem q169_10 : am_look 169 10 = some (.istore_n 3, 11, 3, 0, 0) := by decide +kernel
theorem q169_11 : am_look 169 11 = some (.iload_n 3, 12, 3, 0, 0) := by decide +kernel
theorem q169_12 : am_look 169 12 = some (.aload_n 0, 13, 0, 0, 0) := by decide +kernel
theorem q169_13 : am_look 169 13 = some (.getfield 164, 16, 784, 16, 0) := by decide +kernel
theorem q169_16 : am_look 169 16 = some (.if_icmp .ge 21, 19, 37, 0, 0) := by decide +kernel
theorem q169_19 : am_look 169 19 = some (.aload_n 0, 20, 0, 0, 0) := by decide +kernel
theorem q169_20 : am_look 169 20 = some (.getfield 40, 23, 780, 12, 0) := by decide +kernel
theorem q169_23 : am_look 169 23 = some (.iload_n 3, 24, 3, 0, 0) := by decide +kernel
theorem q169_24 : am_look 169 24 = some (.aload_n 0, 25, 0, 0, 0) := by decide +kernel
theorem q169_25 : am_look 169 25 = some (.iload_n 1, 26, 1, 0, 0) := by decide +kernel
theorem q169_26 : am_look 169 26 = some (.iload_n 3, 27, 3, 0, 0) := by decide +kernel
theorem q169_27 : am_look 169 27 = some (.invokevirtual 125, 30, 79, 3, 12) := by decide +kernel
theorem q169_30 : am_look 169 30 = some (.iastore, 31, 0, 0, 0) := by decide +kernel
theorem q169_31 : am_look 169 31 = some (.iinc 3 1, 34, 3, 0, 1) := by decide +kernel
theorem q169_34 : am_look 169 34 = some (.goto (-23), 37, 11, 0, 0) := by decide +kernel
theorem q169_37 : am_look 169 37 = some (.bipush 48, 39, 0, 0, 48) := by decide +kernel
theorem q169_39 : am_look 169 39 = some (.iload_n 2, 40, 2, 0, 0) := by decide +kernel
theorem q169_40 : am_look 169 40 = some (.imul, 41, 0, 0, 0) := by decide +kernel
theorem q169_41 : am_look 169 41 = some (.istore_n 3, 42, 3, 0, 0) := by decide +kernel
theorem q169_42 : am_look 169 42 = some (.iload_n 3, 43, 3, 0, 0) := by decide +kernel
theorem q169_43 : am_look 169 43 = some (.bipush 48, 45, 0, 0, 48) := by decide +kernel
theorem q169_45 : am_look 169 45 = some (.iload_n 2, 46, 2, 0, 0) := by decide +kernel
theorem q169_46 : am_look 169 46 = some (.imul, 47, 0, 0, 0) := by decide +kernel
theorem q169_47 : am_look 169 47 = some (.iconst 4, 48, 0, 0, 4) := by decide +kernel
theorem q169_48 : am_look 169 48 = some (.aload_n 0, 49, 0, 0, 0) := by decide +kernel
theorem q169_49 : am_look 169 49 = some (.getfield 31, 52, 777, 9, 0) := by decide +kernel
theorem q169_52 : am_look 169 52 = some (.iload_n 2, 53, 2, 0, 0) := by decide +kernel
theorem q169_53 : am_look 169 53 = some (.iaload, 54, 0, 0, 0) := by decide +kernel
theorem q169_54 : am_look 169 54 = some (.imul, 55, 0, 0, 0) := by decide +kernel
theorem q169_55 : am_look 169 55 = some (.iadd, 56, 0, 0, 0) := by decide +kernel
theorem q169_56 : am_look 169 56 = some (.if_icmp .ge 172, 59, 228, 0, 0) := by decide +kernel
theorem q169_59 : am_look 169 59 = some (.iconst 0, 60, 0, 0, 0) := by decide +kernel
theorem q169_60 : am_look 169 60 = some (.istore 4, 62, 4, 0, 0) := by decide +kernel
theorem q169_62 : am_look 169 62 = some (.iconst 0, 63, 0, 0, 0) := by decide +kernel
theorem q169_63 : am_look 169 63 = some (.istore 5, 65, 5, 0, 0) := by decide +kernel
theorem q169_65 : am_look 169 65 = some (.iload 5, 67, 5, 0, 0) := by decide +kernel
theorem q169_67 : am_look 169 67 = some (.aload_n 0, 68, 0, 0, 0) := by decide +kernel
theorem q169_68 : am_look 169 68 = some (.getfield 164, 71, 784, 16, 0) := by decide +kernel
theorem q169_71 : am_look 169 71 = some (.if_icmp .ge 115, 74, 186, 0, 0) := by decide +kernel
theorem q169_74 : am_look 169 74 = some (.aload_n 0, 75, 0, 0, 0) := by decide +kernel
theorem q169_75 : am_look 169 75 = some (.getfield 40, 78, 780, 12, 0) := by decide +kernel
theorem q169_78 : am_look 169 78 = some (.iload 5, 80, 5, 0, 0) := by decide +kernel
theorem q169_80 : am_look 169 80 = some (.iaload, 81, 0, 0, 0) := by decide +kernel
theorem q169_81 : am_look 169 81 = some (.aload_n 0, 82, 0, 0, 0) := by decide +kernel
theorem q169_82 : am_look 169 82 = some (.getfield 34, 85, 778, 10, 0) := by decide +kernel
theorem q169_85 : am_look 169 85 = some (.iload_n 3, 86, 3, 0, 0) := by decide +kernel
theorem q169_86 : am_look 169 86 = some (.iaload, 87, 0, 0, 0) := by decide +kernel
theorem q169_87 : am_look 169 87 = some (.if_icmp .ne 45, 90, 132, 0, 0) := by decide +kernel
theorem q169_90 : am_look 169 90 = some (.aload_n 0, 91, 0, 0, 0) := by decide +kernel
theorem q169_91 : am_look 169 91 = some (.aload_n 0, 92, 0, 0, 0) := by decide +kernel
theorem q169_92 : am_look 169 92 = some (.getfield 34, 95, 778, 10, 0) := by decide +kernel
theorem q169_95 : am_look 169 95 = some (.iload_n 3, 96, 3, 0, 0) := by decide +kernel
theorem q169_96 : am_look 169 96 = some (.iconst 2, 97, 0, 0, 2) := by decide +kernel
theorem q169_97 : am_look 169 97 = some (.iadd, 98, 0, 0, 0) := by decide +kernel
theorem q169_98 : am_look 169 98 = some (.iaload, 99, 0, 0, 0) := by decide +kernel
theorem q169_99 : am_look 169 99 = some (.iload 5, 101, 5, 0, 0) := by decide +kernel
theorem q169_101 : am_look 169 101 = some (.iconst 1, 102, 0, 0, 1) := by decide +kernel
theorem q169_102 : am_look 169 102 = some (.isub, 103, 0, 0, 0) := by decide +kernel
theorem q169_103 : am_look 169 103 = some (.invokevirtual 167, 106, 131, 3, 12) := by decide +kernel
theorem q169_106 : am_look 169 106 = some (.ifCond .eq 26, 109, 132, 0, 0) := by decide +kernel
theorem q169_109 : am_look 169 109 = some (.aload_n 0, 110, 0, 0, 0) := by decide +kernel
theorem q169_110 : am_look 169 110 = some (.aload_n 0, 111, 0, 0, 0) := by decide +kernel
theorem q169_111 : am_look 169 111 = some (.getfield 34, 114, 778, 10, 0) := by decide +kernel
theorem q169_114 : am_look 169 114 = some (.iload_n 3, 115, 3, 0, 0) := by decide +kernel
theorem q169_115 : am_look 169 115 = some (.iconst 3, 116, 0, 0, 3) := by decide +kernel
theorem q169_116 : am_look 169 116 = some (.iadd, 117, 0, 0, 0) := by decide +kernel
theorem q169_117 : am_look 169 117 = some (.iaload, 118, 0, 0, 0) := by decide +kernel
theorem q169_118 : am_look 169 118 = some (.iload 5, 120, 5, 0, 0) := by decide +kernel
theorem q169_120 : am_look 169 120 = some (.iconst 1, 121, 0, 0, 1) := by decide +kernel
theorem q169_121 : am_look 169 121 = some (.iadd, 122, 0, 0, 0) := by decide +kernel
theorem q169_122 : am_look 169 122 = some (.invokevirtual 167, 125, 131, 3, 12) := by decide +kernel
theorem q169_125 : am_look 169 125 = some (.ifCond .eq 7, 128, 132, 0, 0) := by decide +kernel
theorem q169_128 : am_look 169 128 = some (.iconst 1, 129, 0, 0, 1) := by decide +kernel
theorem q169_129 : am_look 169 129 = some (.goto 4, 132, 133, 0, 0) := by decide +kernel
theorem q169_132 : am_look 169 132 = some (.iconst 0, 133, 0, 0, 0) := by decide +kernel
theorem q169_133 : am_look 169 133 = some (.istore 6, 135, 6, 0, 0) := by decide +kernel
theorem q169_135 : am_look 169 135 = some (.iload 6, 137, 6, 0, 0) := by decide +kernel
theorem q169_137 : am_look 169 137 = some (.ifCond .eq 14, 140, 151, 0, 0) := by decide +kernel
theorem q169_140 : am_look 169 140 = some (.aload_n 0, 141, 0, 0, 0) := by decide +kernel
theorem q169_141 : am_look 169 141 = some (.getfield 34, 144, 778, 10, 0) := by decide +kernel
theorem q169_144 : am_look 169 144 = some (.iload_n 3, 145, 3, 0, 0) := by decide +kernel
theorem q169_145 : am_look 169 145 = some (.iconst 1, 146, 0, 0, 1) := by decide +kernel
theorem q169_146 : am_look 169 146 = some (.iadd, 147, 0, 0, 0) := by decide +kernel
theorem q169_147 : am_look 169 147 = some (.iaload, 148, 0, 0, 0) := by decide +kernel
theorem q169_148 : am_look 169 148 = some (.goto 10, 151, 158, 0, 0) := by decide +kernel
theorem q169_151 : am_look 169 151 = some (.aload_n 0, 152, 0, 0, 0) := by decide +kernel
theorem q169_152 : am_look 169 152 = some (.getfield 40, 155, 780, 12, 0) := by decide +kernel
theorem q169_155 : am_look 169 155 = some (.iload 5, 157, 5, 0, 0) := by decide +kernel
theorem q169_157 : am_look 169 157 = some (.iaload, 158, 0, 0, 0) := by decide +kernel
theorem q169_158 : am_look 169 158 = some (.istore 7, 160, 7, 0, 0) := by decide +kernel
theorem q169_160 : am_look 169 160 = some (.iload 7, 162, 7, 0, 0) := by decide +kernel
theorem q169_162 : am_look 169 162 = some (.ifCond .ge 6, 165, 168, 0, 0) := by decide +kernel
theorem q169_165 : am_look 169 165 = some (.goto 15, 168, 180, 0, 0) := by decide +kernel
theorem q169_168 : am_look 169 168 = some (.aload_n 0, 169, 0, 0, 0) := by decide +kernel
theorem q169_169 : am_look 169 169 = some (.getfield 43, 172, 781, 13, 0) := by decide +kernel
theorem q169_172 : am_look 169 172 = some (.iload 4, 174, 4, 0, 0) := by decide +kernel
theorem q169_174 : am_look 169 174 = some (.iload 7, 176, 7, 0, 0) := by decide +kernel
theorem q169_176 : am_look 169 176 = some (.iastore, 177, 0, 0, 0) := by decide +kernel
theorem q169_177 : am_look 169 177 = some (.iinc 4 1, 180, 4, 0, 1) := by decide +kernel
theorem q169_180 : am_look 169 180 = some (.iinc 5 1, 183, 5, 0, 1) := by decide +kernel
theorem q169_183 : am_look 169 183 = some (.goto (-118), 186, 65, 0, 0) := by decide +kernel
theorem q169_186 : am_look 169 186 = some (.aload_n 0, 187, 0, 0, 0) := by decide +kernel
theorem q169_187 : am_look 169 187 = some (.iload 4, 189, 4, 0, 0) := by decide +kernel
theorem q169_189 : am_look 169 189 = some (.putfield 164, 192, 784, 16, 0) := by decide +kernel
theorem q169_192 : am_look 169 192 = some (.iconst 0, 193, 0, 0, 0) := by decide +kernel
theorem q169_193 : am_look 169 193 = some (.istore 5, 195, 5, 0, 0) := by decide +kernel
theorem q169_195 : am_look 169 195 = some (.iload 5, 197, 5, 0, 0) := by decide +kernel
theorem q169_197 : am_look 169 197 = some (.iload 4, 199, 4, 0, 0) := by decide +kernel
theorem q169_199 : am_look 169 199 = some (.if_icmp .ge 23, 202, 222, 0, 0) := by decide +kernel
theorem q169_202 : am_look 169 202 = some (.aload_n 0, 203, 0, 0, 0) := by decide +kernel
theorem q169_203 : am_look 169 203 = some (.getfield 40, 206, 780, 12, 0) := by decide +kernel
theorem q169_206 : am_look 169 206 = some (.iload 5, 208, 5, 0, 0) := by decide +kernel
theorem q169_208 : am_look 169 208 = some (.aload_n 0, 209, 0, 0, 0) := by decide +kernel
theorem q169_209 : am_look 169 209 = some (.getfield 43, 212, 781, 13, 0) := by decide +kernel
theorem q169_212 : am_look 169 212 = some (.iload 5, 214, 5, 0, 0) := by decide +kernel
theorem q169_214 : am_look 169 214 = some (.iaload, 215, 0, 0, 0) := by decide +kernel
theorem q169_215 : am_look 169 215 = some (.iastore, 216, 0, 0, 0) := by decide +kernel
theorem q169_216 : am_look 169 216 = some (.iinc 5 1, 219, 5, 0, 1) := by decide +kernel
theorem q169_219 : am_look 169 219 = some (.goto (-24), 222, 195, 0, 0) := by decide +kernel
theorem q169_222 : am_look 169 222 = some (.iinc 3 4, 225, 3, 0, 4) := by decide +kernel
theorem q169_225 : am_look 169 225 = some (.goto (-183), 228, 42, 0, 0) := by decide +kernel
theorem q169_228 : am_look 169 228 = some (.return_, 229, 0, 0, 0) := by decide +kernel
theorem zb169 : am_zb 169 = false := by decide +kernel
theorem ml169 : am_ml 169 = 8 := by decide +kernel
theorem np169 : am_np 169 + (if am_sc 169 then 0 else 1) = 3 := by decide +kernel
theorem st169 {d : Nat} {h h1 : am_H} {r : Option am_V} (p0 : Nat) (a1 : Int) (a2 : Int) (H : am_x (am_cd d) 169 (fun r2 h2 => r2 = r ∧ h2 = h1) 0 0 [some (.inr (.inr p0)), some (.inl a1), some (.inl a2), none, none, none, none, none] [] h) : am_cd (d + 1) 169 [.inr (.inr p0), .inl a1, .inl a2] h r h1 := by
  refine ⟨⟨by rw [ml169]; simp [am_en], by rw [np169]; rfl⟩, ?_⟩
  rw [ml169]; exact H
theorem q170_0 : am_look 170 0 = some (.aload_n 0, 1, 0, 0, 0) := by decide +kernel
theorem q170_1 : am_look 170 1 = some (.iload_n 1, 2, 1, 0, 0) := by decide +kernel
theorem q170_2 : am_look 170 2 = some (.invokevirtual 100, 5, 114, 2, 12) := by decide +kernel
theorem q170_5 : am_look 170 5 = some (.ifCond .eq 32, 8, 37, 0, 0) := by decide +kernel
theorem q170_8 : am_look 170 8 = some (.iload_n 2, 9, 2, 0, 0) := by decide +kernel
theorem q170_9 : am_look 170 9 = some (.ifCond .lt 28, 12, 37, 0, 0) := by decide +kernel
theorem q170_12 : am_look 170 12 = some (.iload_n 2, 13, 2, 0, 0) := by decide +kernel
theorem q170_13 : am_look 170 13 = some (.aload_n 0, 14, 0, 0, 0) := by decide +kernel
theorem q170_14 : am_look 170 14 = some (.getfield 7, 17, 768, 0, 0) := by decide +kernel
theorem q170_17 : am_look 170 17 = some (.iconst 0, 18, 0, 0, 0) := by decide +kernel
theorem q170_18 : am_look 170 18 = some (.iaload, 19, 0, 0, 0) := by decide +kernel
theorem q170_19 : am_look 170 19 = some (.ishr, 20, 0, 0, 0) := by decide +kernel
theorem q170_20 : am_look 170 20 = some (.ifCond .ne 17, 23, 37, 0, 0) := by decide +kernel
theorem q170_23 : am_look 170 23 = some (.iload_n 2, 24, 2, 0, 0) := by decide +kernel
theorem q170_24 : am_look 170 24 = some (.iload_n 1, 25, 1, 0, 0) := by decide +kernel
theorem q170_25 : am_look 170 25 = some (.ishr, 26, 0, 0, 0) := by decide +kernel
theorem q170_26 : am_look 170 26 = some (.iconst 1, 27, 0, 0, 1) := by decide +kernel
theorem q170_27 : am_look 170 27 = some (.iand, 28, 0, 0, 0) := by decide +kernel
theorem q170_28 : am_look 170 28 = some (.iconst 1, 29, 0, 0, 1) := by decide +kernel
theorem q170_29 : am_look 170 29 = some (.if_icmp .eq 8, 32, 37, 0, 0) := by decide +kernel
theorem q170_32 : am_look 170 32 = some (.iload_n 3, 33, 3, 0, 0) := by decide +kernel
theorem q170_33 : am_look 170 33 = some (.iconst (-1), 34, 0, 0, (-1)) := by decide +kernel
theorem q170_34 : am_look 170 34 = some (.if_icmp .ge 10, 37, 44, 0, 0) := by decide +kernel
theorem q170_37 : am_look 170 37 = some (.aload_n 0, 38, 0, 0, 0) := by decide +kernel
theorem q170_38 : am_look 170 38 = some (.ldc 95, 40, 0, 0, (-100001)) := by decide +kernel
theorem q170_40 : am_look 170 40 = some (.invokevirtual 91, 43, 74, 2, 12) := by decide +kernel
theorem q170_43 : am_look 170 43 = some (.ireturn, 44, 0, 0, 0) := by decide +kernel
theorem q170_44 : am_look 170 44 = some (.iload_n 2, 45, 2, 0, 0) := by decide +kernel
theorem q170_45 : am_look 170 45 = some (.invokestatic 212, 48, 85, 1, 99) := by decide +kernel
theorem q170_48 : am_look 170 48 = some (.bipush 7, 50, 0, 0, 7) := by decide +kernel
theorem q170_50 : am_look 170 50 = some (.if_icmp .le 10, 53, 60, 0, 0) := by decide +kernel
theorem q170_53 : am_look 170 53 = some (.aload_n 0, 54, 0, 0, 0) := by decide +kernel
theorem q170_54 : am_look 170 54 = some (.ldc 104, 56, 0, 0, (-100003)) := by decide +kernel
theorem q170_56 : am_look 170 56 = some (.invokevirtual 91, 59, 74, 2, 12) := by decide +kernel
theorem q170_59 : am_look 170 59 = some (.ireturn, 60, 0, 0, 0) := by decide +kernel
theorem q170_60 : am_look 170 60 = some (.iconst 0, 61, 0, 0, 0) := by decide +kernel
theorem q170_61 : am_look 170 61 = some (.istore 4, 63, 4, 0, 0) := by decide +kernel
theorem q170_63 : am_look 170 63 = some (.iload 4, 65, 4, 0, 0) := by decide +kernel
theorem q170_65 : am_look 170 65 = some (.aload_n 0, 66, 0, 0, 0) := by decide +kernel
theorem q170_66 : am_look 170 66 = some (.getfield 7, 69, 768, 0, 0) := by decide +kernel
theorem q170_69 : am_look 170 69 = some (.iconst 0, 70, 0, 0, 0) := by decide +kernel
theorem q170_70 : am_look 170 70 = some (.iaload, 71, 0, 0, 0) := by decide +kernel
theorem q170_71 : am_look 170 71 = some (.if_icmp .ge 55, 74, 126, 0, 0) := by decide +kernel
theorem q170_74 : am_look 170 74 = some (.aload_n 0, 75, 0, 0, 0) := by decide +kernel
theorem q170_75 : am_look 170 75 = some (.iload 4, 77, 4, 0, 0) := by decide +kernel
theorem q170_77 : am_look 170 77 = some (.invokevirtual 109, 80, 120, 2, 12) := by decide +kernel
theorem q170_80 : am_look 170 80 = some (.iconst 0, 81, 0, 0, 0) := by decide +kernel
theorem q170_81 : am_look 170 81 = some (.istore 5, 83, 5, 0, 0) := by decide +kernel
theorem q170_83 : am_look 170 83 = some (.iload 5, 85, 5, 0, 0) := by decide +kernel
theorem q170_85 : am_look 170 85 = some (.aload_n 0, 86, 0, 0, 0) := by decide +kernel
theorem q170_86 : am_look 170 86 = some (.getfield 7, 89, 768, 0, 0) := by decide +kernel
theorem q170_89 : am_look 170 89 = some (.iconst 0, 90, 0, 0, 0) := by decide +kernel
theorem q170_90 : am_look 170 90 = some (.iaload, 91, 0, 0, 0) := by decide +kernel
theorem q170_91 : am_look 170 91 = some (.if_icmp .ge 29, 94, 120, 0, 0) := by decide +kernel
theorem q170_94 : am_look 170 94 = some (.aload_n 0, 95, 0, 0, 0) := by decide +kernel
theorem q170_95 : am_look 170 95 = some (.getfield 58, 98, 790, 22, 0) := by decide +kernel
theorem q170_98 : am_look 170 98 = some (.bipush 12, 100, 0, 0, 12) := by decide +kernel
theorem q170_100 : am_look 170 100 = some (.iload 4, 102, 4, 0, 0) := by decide +kernel
theorem q170_102 : am_look 170 102 = some (.imul, 103, 0, 0, 0) := by decide +kernel
theorem q170_103 : am_look 170 103 = some (.iload 5, 105, 5, 0, 0) := by decide +kernel
theorem q170_105 : am_look 170 105 = some (.iadd, 106, 0, 0, 0) := by decide +kernel
theorem q170_106 : am_look 170 106 = some (.aload_n 0, 107, 0, 0, 0) := by decide +kernel
theorem q170_107 : am_look 170 107 = some (.getfield 16, 110, 772, 4, 0) := by decide +kernel
theorem q170_110 : am_look 170 110 = some (.iload 5, 112, 5, 0, 0) := by decide +kernel
theorem q170_112 : am_look 170 112 = some (.iaload, 113, 0, 0, 0) := by decide +kernel
theorem q170_113 : am_look 170 113 = some (.iastore, 114, 0, 0, 0) := by decide +kernel
theorem q170_114 : am_look 170 114 = some (.iinc 5 1, 117, 5, 0, 1) := by decide +kernel
theorem q170_117 : am_look 170 117 = some (.goto (-34), 120, 83, 0, 0) := by decide +kernel
theorem q170_120 : am_look 170 120 = some (.iinc 4 1, 123, 4, 0, 1) := by decide +kernel
theorem q170_123 : am_look 170 123 = some (.goto (-60), 126, 63, 0, 0) := by decide +kernel
theorem q170_126 : am_look 170 126 = some (.iconst 0, 127, 0, 0, 0) := by decide +kernel
theorem q170_127 : am_look 170 127 = some (.istore 4, 129, 4, 0, 0) := by decide +kernel
theorem q170_129 : am_look 170 129 = some (.iload 4, 131, 4, 0, 0) := by decide +kernel
theorem q170_131 : am_look 170 131 = some (.aload_n 0, 132, 0, 0, 0) := by decide +kernel
theorem q170_132 : am_look 170 132 = some (.getfield 7, 135, 768, 0, 0) := by decide +kernel
theorem q170_135 : am_look 170 135 = some (.iconst 0, 136, 0, 0, 0) := by decide +kernel
theorem q170_136 : am_look 170 136 = some (.iaload, 137, 0, 0, 0) := by decide +kernel
theorem q170_137 : am_look 170 137 = some (.if_icmp .ge 41, 140, 178, 0, 0) := by decide +kernel
theorem q170_140 : am_look 170 140 = some (.iload_n 2, 141, 2, 0, 0) := by decide +kernel
theorem q170_141 : am_look 170 141 = some (.iload 4, 143, 4, 0, 0) := by decide +kernel
theorem q170_143 : am_look 170 143 = some (.ishr, 144, 0, 0, 0) := by decide +kernel
theorem q170_144 : am_look 170 144 = some (.iconst 1, 145, 0, 0, 1) := by decide +kernel
theorem q170_145 : am_look 170 145 = some (.iand, 146, 0, 0, 0) := by decide +kernel
theorem q170_146 : am_look 170 146 = some (.iconst 1, 147, 0, 0, 1) := by decide +kernel
theorem q170_147 : am_look 170 147 = some (.if_icmp .ne 25, 150, 172, 0, 0) := by decide +kernel
theorem q170_150 : am_look 170 150 = some (.aload_n 0, 151, 0, 0, 0) := by decide +kernel
theorem q170_151 : am_look 170 151 = some (.getfield 58, 154, 790, 22, 0) := by decide +kernel
theorem q170_154 : am_look 170 154 = some (.bipush 12, 156, 0, 0, 12) := by decide +kernel
theorem q170_156 : am_look 170 156 = some (.iload_n 1, 157, 1, 0, 0) := by decide +kernel
theorem q170_157 : am_look 170 157 = some (.imul, 158, 0, 0, 0) := by decide +kernel
theorem q170_158 : am_look 170 158 = some (.iload 4, 160, 4, 0, 0) := by decide +kernel
theorem q170_160 : am_look 170 160 = some (.iadd, 161, 0, 0, 0) := by decide +kernel
theorem q170_161 : am_look 170 161 = some (.iaload, 162, 0, 0, 0) := by decide +kernel
theorem q170_162 : am_look 170 162 = some (.ifCond .ge 10, 165, 172, 0, 0) := by decide +kernel
theorem q170_165 : am_look 170 165 = some (.aload_n 0, 166, 0, 0, 0) := by decide +kernel
theorem q170_166 : am_look 170 166 = some (.ldc 113, 168, 0, 0, (-100008)) := by decide +kernel
theorem q170_168 : am_look 170 168 = some (.invokevirtual 91, 171, 74, 2, 12) := by decide +kernel
theorem q170_171 : am_look 170 171 = some (.ireturn, 172, 0, 0, 0) := by decide +kernel
theorem q170_172 : am_look 170 172 = some (.iinc 4 1, 175, 4, 0, 1) := by decide +kernel
theorem q170_175 : am_look 170 175 = some (.goto (-46), 178, 129, 0, 0) := by decide +kernel
theorem q170_178 : am_look 170 178 = some (.aload_n 0, 179, 0, 0, 0) := by decide +kernel
theorem q170_179 : am_look 170 179 = some (.iload_n 2, 180, 2, 0, 0) := by decide +kernel
theorem q170_180 : am_look 170 180 = some (.invokestatic 212, 183, 85, 1, 99) := by decide +kernel
theorem q170_183 : am_look 170 183 = some (.putfield 215, 186, 795, 27, 0) := by decide +kernel
theorem q170_186 : am_look 170 186 = some (.iload_n 3, 187, 3, 0, 0) := by decide +kernel
theorem q170_187 : am_look 170 187 = some (.aload_n 0, 188, 0, 0, 0) := by decide +kernel
theorem q170_188 : am_look 170 188 = some (.getfield 215, 191, 795, 27, 0) := by decide +kernel
theorem q170_191 : am_look 170 191 = some (.if_icmp .lt 10, 194, 201, 0, 0) := by decide +kernel
theorem q170_194 : am_look 170 194 = some (.aload_n 0, 195, 0, 0, 0) := by decide +kernel
theorem q170_195 : am_look 170 195 = some (.ldc 90, 197, 0, 0, (-100006)) := by decide +kernel
theorem q170_197 : am_look 170 197 = some (.invokevirtual 91, 200, 74, 2, 12) := by decide +kernel
theorem q170_200 : am_look 170 200 = some (.ireturn, 201, 0, 0, 0) := by decide +kernel
theorem q170_201 : am_look 170 201 = some (.aload_n 0, 202, 0, 0, 0) := by decide +kernel
theorem q170_202 : am_look 170 202 = some (.iload_n 1, 203, 1, 0, 0) := by decide +kernel
theorem q170_203 : am_look 170 203 = some (.putfield 203, 206, 794, 26, 0) := by decide +kernel
theorem q170_206 : am_look 170 206 = some (.aload_n 0, 207, 0, 0, 0) := by decide +kernel
theorem q170_207 : am_look 170 207 = some (.iconst (-1), 208, 0, 0, (-1)) := by decide +kernel
theorem q170_208 : am_look 170 208 = some (.putfield 206, 211, 793, 25, 0) := by decide +kernel
theorem q170_211 : am_look 170 211 = some (.aload_n 0, 212, 0, 0, 0) := by decide +kernel
theorem q170_212 : am_look 170 212 = some (.iload_n 1, 213, 1, 0, 0) := by decide +kernel
theorem q170_213 : am_look 170 213 = some (.iload_n 2, 214, 2, 0, 0) := by decide +kernel
theorem q170_214 : am_look 170 214 = some (.iconst 0, 215, 0, 0, 0) := by decide +kernel
theorem q170_215 : am_look 170 215 = some (.iconst 0, 216, 0, 0, 0) := by decide +kernel
theorem q170_216 : am_look 170 216 = some (.invokevirtual 209, 219, 84, 5, 12) := by decide +kernel
theorem q170_219 : am_look 170 219 = some (.iload_n 3, 220, 3, 0, 0) := by decide +kernel
theorem q170_220 : am_look 170 220 = some (.ifCond .ge 10, 223, 230, 0, 0) := by decide +kernel
theorem q170_223 : am_look 170 223 = some (.aload_n 0, 224, 0, 0, 0) := by decide +kernel
theorem q170_224 : am_look 170 224 = some (.getfield 206, 227, 793, 25, 0) := by decide +kernel
theorem q170_227 : am_look 170 227 = some (.goto 9, 230, 236, 0, 0) := by decide +kernel
theorem q170_230 : am_look 170 230 = some (.aload_n 0, 231, 0, 0, 0) := by decide +kernel
theorem q170_231 : am_look 170 231 = some (.getfield 64, 234, 792, 24, 0) := by decide +kernel
theorem q170_234 : am_look 170 234 = some (.iload_n 3, 235, 3, 0, 0) := by decide +kernel
theorem q170_235 : am_look 170 235 = some (.iaload, 236, 0, 0, 0) := by decide +kernel
theorem q170_236 : am_look 170 236 = some (.ireturn, 237, 0, 0, 0) := by decide +kernel
theorem zb170 : am_zb 170 = false := by decide +kernel
theorem ml170 : am_ml 170 = 6 := by decide +kernel
theorem np170 : am_np 170 + (if am_sc 170 then 0 else 1) = 4 := by decide +kernel
theorem st170 {d : Nat} {h h1 : am_H} {r : Option am_V} (p0 : Nat) (a1 : Int) (a2 : Int) (a3 : Int) (H : am_x (am_cd d) 170 (fun r2 h2 => r2 = r ∧ h2 = h1) 0 0 [some (.inr (.inr p0)), some (.inl a1), some (.inl a2), some (.inl a3), none, none] [] h) : am_cd (d + 1) 170 [.inr (.inr p0), .inl a1, .inl a2, .inl a3] h r h1 := by
  refine ⟨⟨by rw [ml170]; simp [am_en], by rw [np170]; rfl⟩, ?_⟩
  rw [ml170]; exact H
theorem q171_0 : am_look 171 0 = some (.iload_n 1, 1, 1, 0, 0) := by decide +kernel
theorem q171_1 : am_look 171 1 = some (.istore_n 3, 2, 3, 0, 0) := by decide +kernel
theorem q171_2 : am_look 171 2 = some (.iconst 0, 3, 0, 0, 0) := by decide +kernel
theorem q171_3 : am_look 171 3 = some (.istore 4, 5, 4, 0, 0) := by decide +kernel
theorem q171_5 : am_look 171 5 = some (.iload 4, 7, 4, 0, 0) := by decide +kernel
theorem q171_7 : am_look 171 7 = some (.iload_n 2, 8, 2, 0, 0) := by decide +kernel
theorem q171_8 : am_look 171 8 = some (.if_icmp .ge 15, 11, 23, 0, 0) := by decide +kernel
theorem q171_11 : am_look 171 11 = some (.aload_n 0, 12, 0, 0, 0) := by decide +kernel
theorem q171_12 : am_look 171 12 = some (.iload_n 3, 13, 3, 0, 0) := by decide +kernel
theorem q171_13 : am_look 171 13 = some (.invokevirtual 218, 16, 134, 2, 12) := by decide +kernel
theorem q171_16 : am_look 171 16 = some (.istore_n 3, 17, 3, 0, 0) := by decide +kernel
theorem q171_17 : am_look 171 17 = some (.iinc 4 1, 20, 4, 0, 1) := by decide +kernel
theorem q171_20 : am_look 171 20 = some (.goto (-15), 23, 5, 0, 0) := by decide +kernel
theorem q171_23 : am_look 171 23 = some (.iload_n 3, 24, 3, 0, 0) := by decide +kernel
theorem q171_24 : am_look 171 24 = some (.ireturn, 25, 0, 0, 0) := by decide +kernel
theorem zb171 : am_zb 171 = false := by decide +kernel
theorem ml171 : am_ml 171 = 5 := by decide +kernel
theorem np171 : am_np 171 + (if am_sc 171 then 0 else 1) = 3 := by decide +kernel
theorem st171 {d : Nat} {h h1 : am_H} {r : Option am_V} (p0 : Nat) (a1 : Int) (a2 : Int) (H : am_x (am_cd d) 171 (fun r2 h2 => r2 = r ∧ h2 = h1) 0 0 [some (.inr (.inr p0)), some (.inl a1), some (.inl a2), none, none] [] h) : am_cd (d + 1) 171 [.inr (.inr p0), .inl a1, .inl a2] h r h1 := by
  refine ⟨⟨by rw [ml171]; simp [am_en], by rw [np171]; rfl⟩, ?_⟩
  rw [ml171]; exact H
theorem q172_0 : am_look 172 0 = some (.iload_n 1, 1, 1, 0, 0) := by decide +kernel
theorem q172_1 : am_look 172 1 = some (.invokestatic 199, 4, 135, 1, 99) := by decide +kernel
theorem q172_4 : am_look 172 4 = some (.ifCond .eq 25, 7, 29, 0, 0) := by decide +kernel
theorem q172_7 : am_look 172 7 = some (.iload_n 2, 8, 2, 0, 0) := by decide +kernel
theorem q172_8 : am_look 172 8 = some (.ifCond .eq 28, 11, 36, 0, 0) := by decide +kernel
theorem q172_11 : am_look 172 11 = some (.iload_n 2, 12, 2, 0, 0) := by decide +kernel
theorem q172_12 : am_look 172 12 = some (.bipush 8, 14, 0, 0, 8) := by decide +kernel
theorem q172_14 : am_look 172 14 = some (.if_icmp .eq 22, 17, 36, 0, 0) := by decide +kernel
theorem q172_17 : am_look 172 17 = some (.iload_n 2, 18, 2, 0, 0) := by decide +kernel
theorem q172_18 : am_look 172 18 = some (.bipush 16, 20, 0, 0, 16) := by decide +kernel
theorem q172_20 : am_look 172 20 = some (.if_icmp .eq 16, 23, 36, 0, 0) := by decide +kernel
theorem q172_23 : am_look 172 23 = some (.iload_n 2, 24, 2, 0, 0) := by decide +kernel
theorem q172_24 : am_look 172 24 = some (.bipush 32, 26, 0, 0, 32) := by decide +kernel
theorem q172_26 : am_look 172 26 = some (.if_icmp .eq 10, 29, 36, 0, 0) := by decide +kernel
theorem q172_29 : am_look 172 29 = some (.aload_n 0, 30, 0, 0, 0) := by decide +kernel
theorem q172_30 : am_look 172 30 = some (.ldc 95, 32, 0, 0, (-100001)) := by decide +kernel
theorem q172_32 : am_look 172 32 = some (.invokevirtual 91, 35, 74, 2, 12) := by decide +kernel
theorem q172_35 : am_look 172 35 = some (.ireturn, 36, 0, 0, 0) := by decide +kernel
theorem q172_36 : am_look 172 36 = some (.iload_n 3, 37, 3, 0, 0) := by decide +kernel
theorem q172_37 : am_look 172 37 = some (.ifCond .ge 10, 40, 47, 0, 0) := by decide +kernel
theorem q172_40 : am_look 172 40 = some (.aload_n 0, 41, 0, 0, 0) := by decide +kernel
theorem q172_41 : am_look 172 41 = some (.ldc 104, 43, 0, 0, (-100003)) := by decide +kernel
theorem q172_43 : am_look 172 43 = some (.invokevirtual 91, 46, 74, 2, 12) := by decide +kernel
theorem q172_46 : am_look 172 46 = some (.ireturn, 47, 0, 0, 0) := by decide +kernel
theorem q172_47 : am_look 172 47 = some (.iload_n 3, 48, 3, 0, 0) := by decide +kernel
theorem q172_48 : am_look 172 48 = some (.bipush 20, 50, 0, 0, 20) := by decide +kernel
theorem q172_50 : am_look 172 50 = some (.if_icmp .le 10, 53, 60, 0, 0) := by decide +kernel
theorem q172_53 : am_look 172 53 = some (.aload_n 0, 54, 0, 0, 0) := by decide +kernel
theorem q172_54 : am_look 172 54 = some (.ldc 95, 56, 0, 0, (-100001)) := by decide +kernel
theorem q172_56 : am_look 172 56 = some (.invokevirtual 91, 59, 74, 2, 12) := by decide +kernel
theorem q172_59 : am_look 172 59 = some (.ireturn, 60, 0, 0, 0) := by decide +kernel
theorem q172_60 : am_look 172 60 = some (.aload_n 0, 61, 0, 0, 0) := by decide +kernel
theorem q172_61 : am_look 172 61 = some (.getfield 67, 64, 796, 28, 0) := by decide +kernel
theorem q172_64 : am_look 172 64 = some (.iload_n 1, 65, 1, 0, 0) := by decide +kernel
theorem q172_65 : am_look 172 65 = some (.iload_n 2, 66, 2, 0, 0) := by decide +kernel
theorem q172_66 : am_look 172 66 = some (.iastore, 67, 0, 0, 0) := by decide +kernel
theorem q172_67 : am_look 172 67 = some (.aload_n 0, 68, 0, 0, 0) := by decide +kernel
theorem q172_68 : am_look 172 68 = some (.getfield 70, 71, 797, 29, 0) := by decide +kernel
theorem q172_71 : am_look 172 71 = some (.iload_n 1, 72, 1, 0, 0) := by decide +kernel
theorem q172_72 : am_look 172 72 = some (.iload_n 2, 73, 2, 0, 0) := by decide +kernel
theorem q172_73 : am_look 172 73 = some (.ifCond .ne 7, 76, 80, 0, 0) := by decide +kernel
theorem q172_76 : am_look 172 76 = some (.iconst 0, 77, 0, 0, 0) := by decide +kernel
theorem q172_77 : am_look 172 77 = some (.goto 4, 80, 81, 0, 0) := by decide +kernel
theorem q172_80 : am_look 172 80 = some (.iload_n 3, 81, 3, 0, 0) := by decide +kernel
theorem q172_81 : am_look 172 81 = some (.iastore, 82, 0, 0, 0) := by decide +kernel
theorem q172_82 : am_look 172 82 = some (.iconst 0, 83, 0, 0, 0) := by decide +kernel
theorem q172_83 : am_look 172 83 = some (.istore 4, 85, 4, 0, 0) := by decide +kernel
theorem q172_85 : am_look 172 85 = some (.iload 4, 87, 4, 0, 0) := by decide +kernel
theorem q172_87 : am_look 172 87 = some (.bipush 20, 89, 0, 0, 20) := by decide +kernel
theorem q172_89 : am_look 172 89 = some (.if_icmp .ge 22, 92, 111, 0, 0) := by decide +kernel
theorem q172_92 : am_look 172 92 = some (.aload_n 0, 93, 0, 0, 0) := by decide +kernel
theorem q172_93 : am_look 172 93 = some (.getfield 73, 96, 798, 30, 0) := by decide +kernel
theorem q172_96 : am_look 172 96 = some (.bipush 20, 98, 0, 0, 20) := by decide +kernel
theorem q172_98 : am_look 172 98 = some (.iload_n 1, 99, 1, 0, 0) := by decide +kernel
theorem q172_99 : am_look 172 99 = some (.imul, 100, 0, 0, 0) := by decide +kernel
theorem q172_100 : am_look 172 100 = some (.iload 4, 102, 4, 0, 0) := by decide +kernel
theorem q172_102 : am_look 172 102 = some (.iadd, 103, 0, 0, 0) := by decide +kernel
theorem q172_103 : am_look 172 103 = some (.iconst 0, 104, 0, 0, 0) := by decide +kernel
theorem q172_104 : am_look 172 104 = some (.iastore, 105, 0, 0, 0) := by decide +kernel
theorem q172_105 : am_look 172 105 = some (.iinc 4 1, 108, 4, 0, 1) := by decide +kernel
theorem q172_108 : am_look 172 108 = some (.goto (-23), 111, 85, 0, 0) := by decide +kernel
theorem q172_111 : am_look 172 111 = some (.aload_n 0, 112, 0, 0, 0) := by decide +kernel
theorem q172_112 : am_look 172 112 = some (.getfield 70, 115, 797, 29, 0) := by decide +kernel
theorem q172_115 : am_look 172 115 = some (.iload_n 1, 116, 1, 0, 0) := by decide +kernel
theorem q172_116 : am_look 172 116 = some (.iaload, 117, 0, 0, 0) := by decide +kernel
theorem q172_117 : am_look 172 117 = some (.ireturn, 118, 0, 0, 0) := by decide +kernel
theorem zb172 : am_zb 172 = false := by decide +kernel
theorem ml172 : am_ml 172 = 5 := by decide +kernel
theorem np172 : am_np 172 + (if am_sc 172 then 0 else 1) = 4 := by decide +kernel
theorem st172 {d : Nat} {h h1 : am_H} {r : Option am_V} (p0 : Nat) (a1 : Int) (a2 : Int) (a3 : Int) (H : am_x (am_cd d) 172 (fun r2 h2 => r2 = r ∧ h2 = h1) 0 0 [some (.inr (.inr p0)), some (.inl a1), some (.inl a2), some (.inl a3), none] [] h) : am_cd (d + 1) 172 [.inr (.inr p0), .inl a1, .inl a2, .inl a3] h r h1 := by
  refine ⟨⟨by rw [ml172]; simp [am_en], by rw [np172]; rfl⟩, ?_⟩
  rw [ml172]; exact H
theorem q173_0 : am_look 173 0 = some (.iload_n 1, 1, 1, 0, 0) := by decide +kernel
theorem q173_1 : am_look 173 1 = some (.invokestatic 199, 4, 135, 1, 99) := by decide +kernel
theorem q173_4 : am_look 173 4 = some (.ifCond .ne 10, 7, 14, 0, 0) := by decide +kernel
theorem q173_7 : am_look 173 7 = some (.aload_n 0, 8, 0, 0, 0) := by decide +kernel
theorem q173_8 : am_look 173 8 = some (.ldc 95, 10, 0, 0, (-100001)) := by decide +kernel
theorem q173_10 : am_look 173 10 = some (.invokevirtual 91, 13, 74, 2, 12) := by decide +kernel
theorem q173_13 : am_look 173 13 = some (.ireturn, 14, 0, 0, 0) := by decide +kernel
theorem q173_14 : am_look 173 14 = some (.aload_n 0, 15, 0, 0, 0) := by decide +kernel
theorem q173_15 : am_look 173 15 = some (.getfield 67, 18, 796, 28, 0) := by decide +kernel
theorem q173_18 : am_look 173 18 = some (.iload_n 1, 19, 1, 0, 0) := by decide +kernel
theorem q173_19 : am_look 173 19 = some (.iaload, 20, 0, 0, 0) := by decide +kernel
theorem q173_20 : am_look 173 20 = some (.ifCond .ne 10, 23, 30, 0, 0) := by decide +kernel
theorem q173_23 : am_look 173 23 = some (.aload_n 0, 24, 0, 0, 0) := by decide +kernel
theorem q173_24 : am_look 173 24 = some (.ldc 175, 26, 0, 0, (-100002)) := by decide +kernel
theorem q173_26 : am_look 173 26 = some (.invokevirtual 91, 29, 74, 2, 12) := by decide +kernel
theorem q173_29 : am_look 173 29 = some (.ireturn, 30, 0, 0, 0) := by decide +kernel
theorem q173_30 : am_look 173 30 = some (.iload_n 2, 31, 2, 0, 0) := by decide +kernel
theorem q173_31 : am_look 173 31 = some (.iconst 0, 32, 0, 0, 0) := by decide +kernel
theorem q173_32 : am_look 173 32 = some (.aload_n 0, 33, 0, 0, 0) := by decide +kernel
theorem q173_33 : am_look 173 33 = some (.getfield 70, 36, 797, 29, 0) := by decide +kernel
theorem q173_36 : am_look 173 36 = some (.iload_n 1, 37, 1, 0, 0) := by decide +kernel
theorem q173_37 : am_look 173 37 = some (.iaload, 38, 0, 0, 0) := by decide +kernel
theorem q173_38 : am_look 173 38 = some (.iconst 1, 39, 0, 0, 1) := by decide +kernel
theorem q173_39 : am_look 173 39 = some (.isub, 40, 0, 0, 0) := by decide +kernel
theorem q173_40 : am_look 173 40 = some (.invokestatic 83, 43, 73, 3, 99) := by decide +kernel
theorem q173_43 : am_look 173 43 = some (.ifCond .ne 10, 46, 53, 0, 0) := by decide +kernel
theorem q173_46 : am_look 173 46 = some (.aload_n 0, 47, 0, 0, 0) := by decide +kernel
theorem q173_47 : am_look 173 47 = some (.ldc 95, 49, 0, 0, (-100001)) := by decide +kernel
theorem q173_49 : am_look 173 49 = some (.invokevirtual 91, 52, 74, 2, 12) := by decide +kernel
theorem q173_52 : am_look 173 52 = some (.ireturn, 53, 0, 0, 0) := by decide +kernel
theorem q173_53 : am_look 173 53 = some (.aload_n 0, 54, 0, 0, 0) := by decide +kernel
theorem q173_54 : am_look 173 54 = some (.getfield 73, 57, 798, 30, 0) := by decide +kernel
theorem q173_57 : am_look 173 57 = some (.bipush 20, 59, 0, 0, 20) := by decide +kernel
theorem q173_59 : am_look 173 59 = some (.iload_n 1, 60, 1, 0, 0) := by decide +kernel
theorem q173_60 : am_look 173 60 = some (.imul, 61, 0, 0, 0) := by decide +kernel
theorem q173_61 : am_look 173 61 = some (.iload_n 2, 62, 2, 0, 0) := by decide +kernel
theorem q173_62 : am_look 173 62 = some (.iadd, 63, 0, 0, 0) := by decide +kernel
theorem q173_63 : am_look 173 63 = some (.aload_n 0, 64, 0, 0, 0) := by decide +kernel
theorem q173_64 : am_look 173 64 = some (.getfield 67, 67, 796, 28, 0) := by decide +kernel
theorem q173_67 : am_look 173 67 = some (.iload_n 1, 68, 1, 0, 0) := by decide +kernel
theorem q173_68 : am_look 173 68 = some (.iaload, 69, 0, 0, 0) := by decide +kernel
theorem q173_69 : am_look 173 69 = some (.bipush 8, 71, 0, 0, 8) := by decide +kernel
theorem q173_71 : am_look 173 71 = some (.if_icmp .ne 8, 74, 79, 0, 0) := by decide +kernel
theorem q173_74 : am_look 173 74 = some (.iload_n 3, 75, 3, 0, 0) := by decide +kernel
theorem q173_75 : am_look 173 75 = some (.i2b, 76, 0, 0, 0) := by decide +kernel
theorem q173_76 : am_look 173 76 = some (.goto 20, 79, 96, 0, 0) := by decide +kernel
theorem q173_79 : am_look 173 79 = some (.aload_n 0, 80, 0, 0, 0) := by decide +kernel
theorem q173_80 : am_look 173 80 = some (.getfield 67, 83, 796, 28, 0) := by decide +kernel
theorem q173_83 : am_look 173 83 = some (.iload_n 1, 84, 1, 0, 0) := by decide +kernel
theorem q173_84 : am_look 173 84 = some (.iaload, 85, 0, 0, 0) := by decide +kernel
theorem q173_85 : am_look 173 85 = some (.bipush 16, 87, 0, 0, 16) := by decide +kernel
theorem q173_87 : am_look 173 87 = some (.if_icmp .ne 8, 90, 95, 0, 0) := by decide +kernel
theorem q173_90 : am_look 173 90 = some (.iload_n 3, 91, 3, 0, 0) := by decide +kernel
theorem q173_91 : am_look 173 91 = some (.i2s, 92, 0, 0, 0) := by decide +kernel
theorem q173_92 : am_look 173 92 = some (.goto 4, 95, 96, 0, 0) := by decide +kernel
theorem q173_95 : am_look 173 95 = some (.iload_n 3, 96, 3, 0, 0) := by decide +kernel
theorem q173_96 : am_look 173 96 = some (.iastore, 97, 0, 0, 0) := by decide +kernel
theorem q173_97 : am_look 173 97 = some (.iconst 0, 98, 0, 0, 0) := by decide +kernel
theorem q173_98 : am_look 173 98 = some (.ireturn, 99, 0, 0, 0) := by decide +kernel
theorem zb173 : am_zb 173 = false := by decide +kernel
theorem ml173 : am_ml 173 = 4 := by decide +kernel
theorem np173 : am_np 173 + (if am_sc 173 then 0 else 1) = 4 := by decide +kernel
theorem st173 {d : Nat} {h h1 : am_H} {r : Option am_V} (p0 : Nat) (a1 : Int) (a2 : Int) (a3 : Int) (H : am_x (am_cd d) 173 (fun r2 h2 => r2 = r ∧ h2 = h1) 0 0 [some (.inr (.inr p0)), some (.inl a1), some (.inl a2), some (.inl a3)] [] h) : am_cd (d + 1) 173 [.inr (.inr p0), .inl a1, .inl a2, .inl a3] h r h1 := by
  refine ⟨⟨by rw [ml173]; simp [am_en], by rw [np173]; rfl⟩, ?_⟩
  rw [ml173]; exact H
theorem q174_0 : am_look 174 0 = some (.iload_n 1, 1, 1, 0, 0) := by decide +kernel
theorem q174_1 : am_look 174 1 = some (.invokestatic 199, 4, 135, 1, 99) := by decide +kernel
theorem q174_4 : am_look 174 4 = some (.ifCond .eq 10, 7, 14, 0, 0) := by decide +kernel
theorem q174_7 : am_look 174 7 = some (.iload_n 3, 8, 3, 0, 0) := by decide +kernel
theorem q174_8 : am_look 174 8 = some (.invokestatic 199, 11, 135, 1, 99) := by decide +kernel
theorem q174_11 : am_look 174 11 = some (.ifCond .ne 10, 14, 21, 0, 0) := by decide +kernel
theorem q174_14 : am_look 174 14 = some (.aload_n 0, 15, 0, 0, 0) := by decide +kernel
theorem q174_15 : am_look 174 15 = some (.ldc 95, 17, 0, 0, (-100001)) := by decide +kernel
theorem q174_17 : am_look 174 17 = some (.invokevirtual 91, 20, 74, 2, 12) := by decide +kernel
theorem q174_20 : am_look 174 20 = some (.ireturn, 21, 0, 0, 0) := by decide +kernel
theorem q174_21 : am_look 174 21 = some (.aload_n 0, 22, 0, 0, 0) := by decide +kernel
theorem q174_22 : am_look 174 22 = some (.getfield 67, 25, 796, 28, 0) := by decide +kernel
theorem q174_25 : am_look 174 25 = some (.iload_n 1, 26, 1, 0, 0) := by decide +kernel
theorem q174_26 : am_look 174 26 = some (.iaload, 27, 0, 0, 0) := by decide +kernel
theorem q174_27 : am_look 174 27 = some (.ifCond .eq 12, 30, 39, 0, 0) := by decide +kernel
theorem q174_30 : am_look 174 30 = some (.aload_n 0, 31, 0, 0, 0) := by decide +kernel
theorem q174_31 : am_look 174 31 = some (.getfield 67, 34, 796, 28, 0) := by decide +kernel
theorem q174_34 : am_look 174 34 = some (.iload_n 3, 35, 3, 0, 0) := by decide +kernel
theorem q174_35 : am_look 174 35 = some (.iaload, 36, 0, 0, 0) := by decide +kernel
theorem q174_36 : am_look 174 36 = some (.ifCond .ne 10, 39, 46, 0, 0) := by decide +kernel
theorem q174_39 : am_look 174 39 = some (.aload_n 0, 40, 0, 0, 0) := by decide +kernel
theorem q174_40 : am_look 174 40 = some (.ldc 175, 42, 0, 0, (-100002)) := by decide +kernel
theorem q174_42 : am_look 174 42 = some (.invokevirtual 91, 45, 74, 2, 12) := by decide +kernel
theorem q174_45 : am_look 174 45 = some (.ireturn, 46, 0, 0, 0) := by decide +kernel
theorem q174_46 : am_look 174 46 = some (.aload_n 0, 47, 0, 0, 0) := by decide +kernel
theorem q174_47 : am_look 174 47 = some (.getfield 67, 50, 796, 28, 0) := by decide +kernel
theorem q174_50 : am_look 174 50 = some (.iload_n 1, 51, 1, 0, 0) := by decide +kernel
theorem q174_51 : am_look 174 51 = some (.iaload, 52, 0, 0, 0) := by decide +kernel
theorem q174_52 : am_look 174 52 = some (.aload_n 0, 53, 0, 0, 0) := by decide +kernel
theorem q174_53 : am_look 174 53 = some (.getfield 67, 56, 796, 28, 0) := by decide +kernel
theorem q174_56 : am_look 174 56 = some (.iload_n 3, 57, 3, 0, 0) := by decide +kernel
theorem q174_57 : am_look 174 57 = some (.iaload, 58, 0, 0, 0) := by decide +kernel
theorem q174_58 : am_look 174 58 = some (.if_icmp .eq 10, 61, 68, 0, 0) := by decide +kernel
theorem q174_61 : am_look 174 61 = some (.aload_n 0, 62, 0, 0, 0) := by decide +kernel
theorem q174_62 : am_look 174 62 = some (.ldc 117, 64, 0, 0, (-100004)) := by decide +kernel
theorem q174_64 : am_look 174 64 = some (.invokevirtual 91, 67, 74, 2, 12) := by decide +kernel
theorem q174_67 : am_look 174 67 = some (.ireturn, 68, 0, 0, 0) := by decide +kernel
theorem q174_68 : am_look 174 68 = some (.iload_n 2, 69, 2, 0, 0) := by decide +kernel
theorem q174_69 : am_look 174 69 = some (.ifCond .lt 48, 72, 117, 0, 0) := by decide +kernel
theorem q174_72 : am_look 174 72 = some (.iload 4, 74, 4, 0, 0) := by decide +kernel
theorem q174_74 : am_look 174 74 = some (.ifCond .lt 43, 77, 117, 0, 0) := by decide +kernel
theorem q174_77 : am_look 174 77 = some (.iload 5, 79, 5, 0, 0) := by decide +kernel
theorem q174_79 : am_look 174 79 = some (.ifCond .lt 38, 82, 117, 0, 0) := by decide +kernel
theorem q174_82 : am_look 174 82 = some (.iload_n 2, 83, 2, 0, 0) := by decide +kernel
theorem q174_83 : am_look 174 83 = some (.i2l, 84, 0, 0, 0) := by decide +kernel
theorem q174_84 : am_look 174 84 = some (.iload 5, 86, 5, 0, 0) := by decide +kernel
theorem q174_86 : am_look 174 86 = some (.i2l, 87, 0, 0, 0) := by decide +kernel
theorem q174_87 : am_look 174 87 = some (.ladd, 88, 0, 0, 0) := by decide +kernel
theorem q174_88 : am_look 174 88 = some (.aload_n 0, 89, 0, 0, 0) := by decide +kernel
theorem q174_89 : am_look 174 89 = some (.getfield 70, 92, 797, 29, 0) := by decide +kernel
theorem q174_92 : am_look 174 92 = some (.iload_n 1, 93, 1, 0, 0) := by decide +kernel
theorem q174_93 : am_look 174 93 = some (.iaload, 94, 0, 0, 0) := by decide +kernel
theorem q174_94 : am_look 174 94 = some (.i2l, 95, 0, 0, 0) := by decide +kernel
theorem q174_95 : am_look 174 95 = some (.lcmp, 96, 0, 0, 0) := by decide +kernel
theorem q174_96 : am_look 174 96 = some (.ifCond .gt 21, 99, 117, 0, 0) := by decide +kernel
theorem q174_99 : am_look 174 99 = some (.iload 4, 101, 4, 0, 0) := by decide +kernel
theorem q174_101 : am_look 174 101 = some (.i2l, 102, 0, 0, 0) := by decide +kernel
theorem q174_102 : am_look 174 102 = some (.iload 5, 104, 5, 0, 0) := by decide +kernel
theorem q174_104 : am_look 174 104 = some (.i2l, 105, 0, 0, 0) := by decide +kernel
theorem q174_105 : am_look 174 105 = some (.ladd, 106, 0, 0, 0) := by decide +kernel
theorem q174_106 : am_look 174 106 = some (.aload_n 0, 107, 0, 0, 0) := by decide +kernel
theorem q174_107 : am_look 174 107 = some (.getfield 70, 110, 797, 29, 0) := by decide +kernel
theorem q174_110 : am_look 174 110 = some (.iload_n 3, 111, 3, 0, 0) := by decide +kernel
theorem q174_111 : am_look 174 111 = some (.iaload, 112, 0, 0, 0) := by decide +kernel
theorem q174_112 : am_look 174 112 = some (.i2l, 113, 0, 0, 0) := by decide +kernel
theorem q174_113 : am_look 174 113 = some (.lcmp, 114, 0, 0, 0) := by decide +kernel
theorem q174_114 : am_look 174 114 = some (.ifCond .le 10, 117, 124, 0, 0) := by decide +kernel
theorem q174_117 : am_look 174 117 = some (.aload_n 0, 118, 0, 0, 0) := by decide +kernel
theorem q174_118 : am_look 174 118 = some (.ldc 95, 120, 0, 0, (-100001)) := by decide +kernel
theorem q174_120 : am_look 174 120 = some (.invokevirtual 91, 123, 74, 2, 12) := by decide +kernel
theorem q174_123 : am_look 174 123 = some (.ireturn, 124, 0, 0, 0) := by decide +kernel
theorem q174_124 : am_look 174 124 = some (.iconst 0, 125, 0, 0, 0) := by decide +kernel
theorem q174_125 : am_look 174 125 = some (.istore 6, 127, 6, 0, 0) := by decide +kernel
theorem q174_127 : am_look 174 127 = some (.iload 6, 129, 6, 0, 0) := by decide +kernel
theorem q174_129 : am_look 174 129 = some (.iload 5, 131, 5, 0, 0) := by decide +kernel
theorem q174_131 : am_look 174 131 = some (.if_icmp .ge 30, 134, 161, 0, 0) := by decide +kernel
theorem q174_134 : am_look 174 134 = some (.aload_n 0, 135, 0, 0, 0) := by decide +kernel
theorem q174_135 : am_look 174 135 = some (.getfield 76, 138, 799, 31, 0) := by decide +kernel
theorem q174_138 : am_look 174 138 = some (.iload 6, 140, 6, 0, 0) := by decide +kernel
theorem q174_140 : am_look 174 140 = some (.aload_n 0, 141, 0, 0, 0) := by decide +kernel
theorem q174_141 : am_look 174 141 = some (.getfield 73, 144, 798, 30, 0) := by decide +kernel
theorem q174_144 : am_look 174 144 = some (.bipush 20, 146, 0, 0, 20) := by decide +kernel
theorem q174_146 : am_look 174 146 = some (.iload_n 1, 147, 1, 0, 0) := by decide +kernel
theorem q174_147 : am_look 174 147 = some (.imul, 148, 0, 0, 0) := by decide +kernel
theorem q174_148 : am_look 174 148 = some (.iload_n 2, 149, 2, 0, 0) := by decide +kernel
theorem q174_149 : am_look 174 149 = some (.iadd, 150, 0, 0, 0) := by decide +kernel
theorem q174_150 : am_look 174 150 = some (.iload 6, 152, 6, 0, 0) := by decide +kernel
theorem q174_152 : am_look 174 152 = some (.iadd, 153, 0, 0, 0) := by decide +kernel
theorem q174_153 : am_look 174 153 = some (.iaload, 154, 0, 0, 0) := by decide +kernel
theorem q174_154 : am_look 174 154 = some (.iastore, 155, 0, 0, 0) := by decide +kernel
theorem q174_155 : am_look 174 155 = some (.iinc 6 1, 158, 6, 0, 1) := by decide +kernel
theorem q174_158 : am_look 174 158 = some (.goto (-31), 161, 127, 0, 0) := by decide +kernel
theorem q174_161 : am_look 174 161 = some (.iconst 0, 162, 0, 0, 0) := by decide +kernel
theorem q174_162 : am_look 174 162 = some (.istore 6, 164, 6, 0, 0) := by decide +kernel
theorem q174_164 : am_look 174 164 = some (.iload 6, 166, 6, 0, 0) := by decide +kernel
theorem q174_166 : am_look 174 166 = some (.iload 5, 168, 5, 0, 0) := by decide +kernel
theorem q174_168 : am_look 174 168 = some (.if_icmp .ge 31, 171, 199, 0, 0) := by decide +kernel
theorem q174_171 : am_look 174 171 = some (.aload_n 0, 172, 0, 0, 0) := by decide +kernel
theorem q174_172 : am_look 174 172 = some (.getfield 73, 175, 798, 30, 0) := by decide +kernel
theorem q174_175 : am_look 174 175 = some (.bipush 20, 177, 0, 0, 20) := by decide +kernel
theorem q174_177 : am_look 174 177 = some (.iload_n 3, 178, 3, 0, 0) := by decide +kernel
theorem q174_178 : am_look 174 178 = some (.imul, 179, 0, 0, 0) := by decide +kernel
theorem q174_179 : am_look 174 179 = some (.iload 4, 181, 4, 0, 0) := by decide +kernel
theorem q174_181 : am_look 174 181 = some (.iadd, 182, 0, 0, 0) := by decide +kernel
theorem q174_182 : am_look 174 182 = some (.iload 6, 184, 6, 0, 0) := by decide +kernel
theorem q174_184 : am_look 174 184 = some (.iadd, 185, 0, 0, 0) := by decide +kernel
theorem q174_185 : am_look 174 185 = some (.aload_n 0, 186, 0, 0, 0) := by decide +kernel
theorem q174_186 : am_look 174 186 = some (.getfield 76, 189, 799, 31, 0) := by decide +kernel
theorem q174_189 : am_look 174 189 = some (.iload 6, 191, 6, 0, 0) := by decide +kernel
theorem q174_191 : am_look 174 191 = some (.iaload, 192, 0, 0, 0) := by decide +kernel
theorem q174_192 : am_look 174 192 = some (.iastore, 193, 0, 0, 0) := by decide +kernel
theorem q174_193 : am_look 174 193 = some (.iinc 6 1, 196, 6, 0, 1) := by decide +kernel
theorem q174_196 : am_look 174 196 = some (.goto (-32), 199, 164, 0, 0) := by decide +kernel
theorem q174_199 : am_look 174 199 = some (.iload 5, 201, 5, 0, 0) := by decide +kernel
theorem q174_201 : am_look 174 201 = some (.ireturn, 202, 0, 0, 0) := by decide +kernel
theorem zb174 : am_zb 174 = false := by decide +kernel
theorem ml174 : am_ml 174 = 7 := by decide +kernel
theorem np174 : am_np 174 + (if am_sc 174 then 0 else 1) = 6 := by decide +kernel
theorem st174 {d : Nat} {h h1 : am_H} {r : Option am_V} (p0 : Nat) (a1 : Int) (a2 : Int) (a3 : Int) (a4 : Int) (a5 : Int) (H : am_x (am_cd d) 174 (fun r2 h2 => r2 = r ∧ h2 = h1) 0 0 [some (.inr (.inr p0)), some (.inl a1), some (.inl a2), some (.inl a3), some (.inl a4), some (.inl a5), none] [] h) : am_cd (d + 1) 174 [.inr (.inr p0), .inl a1, .inl a2, .inl a3, .inl a4, .inl a5] h r h1 := by
  refine ⟨⟨by rw [ml174]; simp [am_en], by rw [np174]; rfl⟩, ?_⟩
  rw [ml174]; exact H
theorem q175_0 : am_look 175 0 = some (.aload_n 0, 1, 0, 0, 0) := by decide +kernel
theorem q175_1 : am_look 175 1 = some (.iconst 0, 2, 0, 0, 0) := by decide +kernel
theorem q175_2 : am_look 175 2 = some (.putfield 55, 5, 130, 2, 0) := by decide +kernel
theorem q175_5 : am_look 175 5 = some (.aload_n 0, 6, 0, 0, 0) := by decide +kernel
theorem q175_6 : am_look 175 6 = some (.iconst 0, 7, 0, 0, 0) := by decide +kernel
theorem q175_7 : am_look 175 7 = some (.putfield 58, 10, 131, 3, 0) := by decide +kernel
theorem q175_10 : am_look 175 10 = some (.iconst 0, 11, 0, 0, 0) := by decide +kernel
theorem q175_11 : am_look 175 11 = some (.istore 5, 13, 5, 0, 0) := by decide +kernel
theorem q175_13 : am_look 175 13 = some (.iload 5, 15, 5, 0, 0) := by decide +kernel
theorem q175_15 : am_look 175 15 = some (.aload_n 0, 16, 0, 0, 0) := by decide +kernel
theorem q175_16 : am_look 175 16 = some (.getfield 9, 19, 128, 0, 0) := by decide +kernel
theorem q175_19 : am_look 175 19 = some (.invokevirtual 45, 22, 36, 1, 6) := by decide +kernel
theorem q175_22 : am_look 175 22 = some (.if_icmp .ge 69, 25, 91, 0, 0) := by decide +kernel
theorem q175_25 : am_look 175 25 = some (.aload_n 0, 26, 0, 0, 0) := by decide +kernel
theorem q175_26 : am_look 175 26 = some (.getfield 15, 29, 129, 1, 0) := by decide +kernel
theorem q175_29 : am_look 175 29 = some (.iload 5, 31, 5, 0, 0) := by decide +kernel
theorem q175_31 : am_look 175 31 = some (.iload_n 1, 32, 1, 0, 0) := by decide +kernel
theorem q175_32 : am_look 175 32 = some (.iload 4, 34, 4, 0, 0) := by decide +kernel
theorem q175_34 : am_look 175 34 = some (.invokevirtual 61, 37, 139, 4, 0) := by decide +kernel
theorem q175_37 : am_look 175 37 = some (.istore 6, 39, 6, 0, 0) := by decide +kernel
theorem q175_39 : am_look 175 39 = some (.aload_n 0, 40, 0, 0, 0) := by decide +kernel
theorem q175_40 : am_look 175 40 = some (.dup, 41, 0, 0, 0) := by decide +kernel
theorem q175_41 : am_look 175 41 = some (.getfield 55, 44, 130, 2, 0) := by decide +kernel
theorem q175_44 : am_look 175 44 = some (.iload 6, 46, 6, 0, 0) := by decide +kernel
theorem q175_46 : am_look 175 46 = some (.iload_n 2, 47, 2, 0, 0) := by decide +kernel
theorem q175_47 : am_look 175 47 = some (.if_icmp .ne 10, 50, 57, 0, 0) := by decide +kernel
theorem q175_50 : am_look 175 50 = some (.iconst 1, 51, 0, 0, 1) := by decide +kernel
theorem q175_51 : am_look 175 51 = some (.iload 5, 53, 5, 0, 0) := by decide +kernel
theorem q175_53 : am_look 175 53 = some (.ishl, 54, 0, 0, 0) := by decide +kernel
theorem q175_54 : am_look 175 54 = some (.goto 4, 57, 58, 0, 0) := by decide +kernel
theorem q175_57 : am_look 175 57 = some (.iconst 0, 58, 0, 0, 0) := by decide +kernel
theorem q175_58 : am_look 175 58 = some (.ior, 59, 0, 0, 0) := by decide +kernel
theorem q175_59 : am_look 175 59 = some (.putfield 55, 62, 130, 2, 0) := by decide +kernel
theorem q175_62 : am_look 175 62 = some (.aload_n 0, 63, 0, 0, 0) := by decide +kernel
theorem q175_63 : am_look 175 63 = some (.dup, 64, 0, 0, 0) := by decide +kernel
theorem q175_64 : am_look 175 64 = some (.getfield 58, 67, 131, 3, 0) := by decide +kernel
theorem q175_67 : am_look 175 67 = some (.iload 6, 69, 6, 0, 0) := by decide +kernel
theorem q175_69 : am_look 175 69 = some (.iload_n 3, 70, 3, 0, 0) := by decide +kernel
theorem q175_70 : am_look 175 70 = some (.if_icmp .ne 10, 73, 80, 0, 0) := by decide +kernel
theorem q175_73 : am_look 175 73 = some (.iconst 1, 74, 0, 0, 1) := by decide +kernel
theorem q175_74 : am_look 175 74 = some (.iload 5, 76, 5, 0, 0) := by decide +kernel
theorem q175_76 : am_look 175 76 = some (.ishl, 77, 0, 0, 0) := by decide +kernel
theorem q175_77 : am_look 175 77 = some (.goto 4, 80, 81, 0, 0) := by decide +kernel
theorem q175_80 : am_look 175 80 = some (.iconst 0, 81, 0, 0, 0) := by decide +kernel
theorem q175_81 : am_look 175 81 = some (.ior, 82, 0, 0, 0) := by decide +kernel
theorem q175_82 : am_look 175 82 = some (.putfield 58, 85, 131, 3, 0) := by decide +kernel
theorem q175_85 : am_look 175 85 = some (.iinc 5 1, 88, 5, 0, 1) := by decide +kernel
theorem q175_88 : am_look 175 88 = some (.goto (-75), 91, 13, 0, 0) := by decide +kernel
theorem q175_91 : am_look 175 91 = some (.return_, 92, 0, 0, 0) := by decide +kernel
theorem zb175 : am_zb 175 = false := by decide +kernel
theorem ml175 : am_ml 175 = 7 := by decide +kernel
theorem np175 : am_np 175 + (if am_sc 175 then 0 else 1) = 5 := by decide +kernel
theorem st175 {d : Nat} {h h1 : am_H} {r : Option am_V} (p0 : Nat) (a1 : Int) (a2 : Int) (a3 : Int) (a4 : Int) (H : am_x (am_cd d) 175 (fun r2 h2 => r2 = r ∧ h2 = h1) 0 0 [some (.inr (.inr p0)), some (.inl a1), some (.inl a2), some (.inl a3), some (.inl a4), none, none] [] h) : am_cd (d + 1) 175 [.inr (.inr p0), .inl a1, .inl a2, .inl a3, .inl a4] h r h1 := by
  refine ⟨⟨by rw [ml175]; simp [am_en], by rw [np175]; rfl⟩, ?_⟩
  rw [ml175]; exact H
theorem q176_0 : am_look 176 0 = some (.iconst 0, 1, 0, 0, 0) := by decide +kernel
theorem q176_1 : am_look 176 1 = some (.istore_n 3, 2, 3, 0, 0) := by decide +kernel
theorem q176_2 : am_look 176 2 = some (.iload_n 3, 3, 3, 0, 0) := by decide +kernel
theorem q176_3 : am_look 176 3 = some (.bipush 6, 5, 0, 0, 6) := by decide +kernel
theorem q176_5 : am_look 176 5 = some (.if_icmp .ge 30, 8, 35, 0, 0) := by decide +kernel
theorem q176_8 : am_look 176 8 = some (.aload_n 0, 9, 0, 0, 0) := by decide +kernel
theorem q176_9 : am_look 176 9 = some (.getfield 11, 12, 195, 3, 0) := by decide +kernel
theorem q176_12 : am_look 176 12 = some (.iload_n 1, 13, 1, 0, 0) := by decide +kernel
theorem q176_13 : am_look 176 13 = some (.bipush 6, 15, 0, 0, 6) := by decide +kernel
theorem q176_15 : am_look 176 15 = some (.imul, 16, 0, 0, 0) := by decide +kernel
theorem q176_16 : am_look 176 16 = some (.iload_n 3, 17, 3, 0, 0) := by decide +kernel
theorem q176_17 : am_look 176 17 = some (.iadd, 18, 0, 0, 0) := by decide +kernel
theorem q176_18 : am_look 176 18 = some (.aload_n 0, 19, 0, 0, 0) := by decide +kernel
theorem q176_19 : am_look 176 19 = some (.getfield 37, 22, 194, 2, 0) := by decide +kernel
theorem q176_22 : am_look 176 22 = some (.iload_n 1, 23, 1, 0, 0) := by decide +kernel
theorem q176_23 : am_look 176 23 = some (.iload_n 3, 24, 3, 0, 0) := by decide +kernel
theorem q176_24 : am_look 176 24 = some (.iload_n 2, 25, 2, 0, 0) := by decide +kernel
theorem q176_25 : am_look 176 25 = some (.invokevirtual 49, 28, 139, 4, 0) := by decide +kernel
theorem q176_28 : am_look 176 28 = some (.iastore, 29, 0, 0, 0) := by decide +kernel
theorem q176_29 : am_look 176 29 = some (.iinc 3 1, 32, 3, 0, 1) := by decide +kernel
theorem q176_32 : am_look 176 32 = some (.goto (-30), 35, 2, 0, 0) := by decide +kernel
theorem q176_35 : am_look 176 35 = some (.return_, 36, 0, 0, 0) := by decide +kernel
theorem zb176 : am_zb 176 = false := by decide +kernel
theorem ml176 : am_ml 176 = 4 := by decide +kernel
theorem np176 : am_np 176 + (if am_sc 176 then 0 else 1) = 3 := by decide +kernel
theorem st176 {d : Nat} {h h1 : am_H} {r : Option am_V} (p0 : Nat) (a1 : Int) (a2 : Int) (H : am_x (am_cd d) 176 (fun r2 h2 => r2 = r ∧ h2 = h1) 0 0 [some (.inr (.inr p0)), some (.inl a1), some (.inl a2), none] [] h) : am_cd (d + 1) 176 [.inr (.inr p0), .inl a1, .inl a2] h r h1 := by
  refine ⟨⟨by rw [ml176]; simp [am_en], by rw [np176]; rfl⟩, ?_⟩
  rw [ml176]; exact H
theorem q177_0 : am_look 177 0 = some (.iconst 0, 1, 0, 0, 0) := by decide +kernel
theorem q177_1 : am_look 177 1 = some (.istore_n 3, 2, 3, 0, 0) := by decide +kernel
theorem q177_2 : am_look 177 2 = some (.iconst 0, 3, 0, 0, 0) := by decide +kernel
theorem q177_3 : am_look 177 3 = some (.istore 4, 5, 4, 0, 0) := by decide +kernel
theorem q177_5 : am_look 177 5 = some (.iload 4, 7, 4, 0, 0) := by decide +kernel
theorem q177_7 : am_look 177 7 = some (.bipush 6, 9, 0, 0, 6) := by decide +kernel
theorem q177_9 : am_look 177 9 = some (.if_icmp .ge 63, 12, 72, 0, 0) := by decide +kernel
theorem q177_12 : am_look 177 12 = some (.aload_n 0, 13, 0, 0, 0) := by decide +kernel
theorem q177_13 : am_look 177 13 = some (.getfield 11, 16, 195, 3, 0) := by decide +kernel
theorem q177_16 : am_look 177 16 = some (.iload_n 1, 17, 1, 0, 0) := by decide +kernel
theorem q177_17 : am_look 177 17 = some (.bipush 6, 19, 0, 0, 6) := by decide +kernel
theorem q177_19 : am_look 177 19 = some (.imul, 20, 0, 0, 0) := by decide +kernel
theorem q177_20 : am_look 177 20 = some (.iload 4, 22, 4, 0, 0) := by decide +kernel
theorem q177_22 : am_look 177 22 = some (.iadd, 23, 0, 0, 0) := by decide +kernel
theorem q177_23 : am_look 177 23 = some (.iaload, 24, 0, 0, 0) := by decide +kernel
theorem q177_24 : am_look 177 24 = some (.istore 5, 26, 5, 0, 0) := by decide +kernel
theorem q177_26 : am_look 177 26 = some (.aload_n 0, 27, 0, 0, 0) := by decide +kernel
theorem q177_27 : am_look 177 27 = some (.getfield 11, 30, 195, 3, 0) := by decide +kernel
theorem q177_30 : am_look 177 30 = some (.iload_n 2, 31, 2, 0, 0) := by decide +kernel
theorem q177_31 : am_look 177 31 = some (.bipush 6, 33, 0, 0, 6) := by decide +kernel
theorem q177_33 : am_look 177 33 = some (.imul, 34, 0, 0, 0) := by decide +kernel
theorem q177_34 : am_look 177 34 = some (.iload 4, 36, 4, 0, 0) := by decide +kernel
theorem q177_36 : am_look 177 36 = some (.iadd, 37, 0, 0, 0) := by decide +kernel
theorem q177_37 : am_look 177 37 = some (.iaload, 38, 0, 0, 0) := by decide +kernel
theorem q177_38 : am_look 177 38 = some (.istore 6, 40, 6, 0, 0) := by decide +kernel
theorem q177_40 : am_look 177 40 = some (.iload 5, 42, 5, 0, 0) := by decide +kernel
theorem q177_42 : am_look 177 42 = some (.iconst (-1), 43, 0, 0, (-1)) := by decide +kernel
theorem q177_43 : am_look 177 43 = some (.if_icmp .eq 23, 46, 66, 0, 0) := by decide +kernel
theorem q177_46 : am_look 177 46 = some (.iload 6, 48, 6, 0, 0) := by decide +kernel
theorem q177_48 : am_look 177 48 = some (.iconst (-1), 49, 0, 0, (-1)) := by decide +kernel
theorem q177_49 : am_look 177 49 = some (.if_icmp .eq 17, 52, 66, 0, 0) := by decide +kernel
theorem q177_52 : am_look 177 52 = some (.iload_n 3, 53, 3, 0, 0) := by decide +kernel
theorem q177_53 : am_look 177 53 = some (.aload_n 0, 54, 0, 0, 0) := by decide +kernel
theorem q177_54 : am_look 177 54 = some (.getfield 33, 57, 193, 1, 0) := by decide +kernel
theorem q177_57 : am_look 177 57 = some (.iload 5, 59, 5, 0, 0) := by decide +kernel
theorem q177_59 : am_look 177 59 = some (.iload 6, 61, 6, 0, 0) := by decide +kernel
theorem q177_61 : am_look 177 61 = some (.invokevirtual 55, 64, 144, 3, 4) := by decide +kernel
theorem q177_64 : am_look 177 64 = some (.iadd, 65, 0, 0, 0) := by decide +kernel
theorem q177_65 : am_look 177 65 = some (.istore_n 3, 66, 3, 0, 0) := by decide +kernel
theorem q177_66 : am_look 177 66 = some (.iinc 4 1, 69, 4, 0, 1) := by decide +kernel
theorem q177_69 : am_look 177 69 = some (.goto (-64), 72, 5, 0, 0) := by decide +kernel
theorem q177_72 : am_look 177 72 = some (.iload_n 3, 73, 3, 0, 0) := by decide +kernel
theorem q177_73 : am_look 177 73 = some (.ireturn, 74, 0, 0, 0) := by decide +kernel
theorem zb177 : am_zb 177 = false := by decide +kernel
theorem ml177 : am_ml 177 = 7 := by decide +kernel
theorem np177 : am_np 177 + (if am_sc 177 then 0 else 1) = 3 := by decide +kernel
theorem st177 {d : Nat} {h h1 : am_H} {r : Option am_V} (p0 : Nat) (a1 : Int) (a2 : Int) (H : am_x (am_cd d) 177 (fun r2 h2 => r2 = r ∧ h2 = h1) 0 0 [some (.inr (.inr p0)), some (.inl a1), some (.inl a2), none, none, none, none] [] h) : am_cd (d + 1) 177 [.inr (.inr p0), .inl a1, .inl a2] h r h1 := by
  refine ⟨⟨by rw [ml177]; simp [am_en], by rw [np177]; rfl⟩, ?_⟩
  rw [ml177]; exact H
theorem q178_0 : am_look 178 0 = some (.aload_n 0, 1, 0, 0, 0) := by decide +kernel
theorem q178_1 : am_look 178 1 = some (.aload_n 0, 2, 0, 0, 0) := by decide +kernel
theorem q178_2 : am_look 178 2 = some (.getfield 18, 5, 260, 4, 0) := by decide +kernel
theorem q178_5 : am_look 178 5 = some (.aload_n 0, 6, 0, 0, 0) := by decide +kernel
theorem q178_6 : am_look 178 6 = some (.getfield 33, 9, 259, 3, 0) := by decide +kernel
theorem q178_9 : am_look 178 9 = some (.invokevirtual 36, 12, 143, 3, 4) := by decide +kernel
theorem q178_12 : am_look 178 12 = some (.ireturn, 13, 0, 0, 0) := by decide +kernel
theorem zb178 : am_zb 178 = false := by decide +kernel
theorem ml178 : am_ml 178 = 1 := by decide +kernel
theorem np178 : am_np 178 + (if am_sc 178 then 0 else 1) = 1 := by decide +kernel
theorem st178 {d : Nat} {h h1 : am_H} {r : Option am_V} (p0 : Nat) (H : am_x (am_cd d) 178 (fun r2 h2 => r2 = r ∧ h2 = h1) 0 0 [some (.inr (.inr p0))] [] h) : am_cd (d + 1) 178 [.inr (.inr p0)] h r h1 := by
  refine ⟨⟨by rw [ml178]; simp [am_en], by rw [np178]; rfl⟩, ?_⟩
  rw [ml178]; exact H
theorem q179_0 : am_look 179 0 = some (.iconst 0, 1, 0, 0, 0) := by decide +kernel
theorem q179_1 : am_look 179 1 = some (.istore_n 1, 2, 1, 0, 0) := by decide +kernel
theorem q179_2 : am_look 179 2 = some (.iconst 0, 3, 0, 0, 0) := by decide +kernel
theorem q179_3 : am_look 179 3 = some (.istore_n 2, 4, 2, 0, 0) := by decide +kernel
theorem q179_4 : am_look 179 4 = some (.iload_n 2, 5, 2, 0, 0) := by decide +kernel
theorem q179_5 : am_look 179 5 = some (.aload_n 0, 6, 0, 0, 0) := by decide +kernel
theorem q179_6 : am_look 179 6 = some (.getfield 27, 9, 384, 0, 0) := by decide +kernel
theorem q179_9 : am_look 179 9 = some (.if_icmp .ge 20, 12, 29, 0, 0) := by decide +kernel
theorem q179_12 : am_look 179 12 = some (.iload_n 1, 13, 1, 0, 0) := by decide +kernel
theorem q179_13 : am_look 179 13 = some (.aload_n 0, 14, 0, 0, 0) := by decide +kernel
theorem q179_14 : am_look 179 14 = some (.iload_n 2, 15, 2, 0, 0) := by decide +kernel
theorem q179_15 : am_look 179 15 = some (.invokevirtual 39, 18, 145, 2, 6) := by decide +kernel
theorem q179_18 : am_look 179 18 = some (.invokestatic 43, 21, 86, 1, 99) := by decide +kernel
theorem q179_21 : am_look 179 21 = some (.iadd, 22, 0, 0, 0) := by decide +kernel
theorem q179_22 : am_look 179 22 = some (.istore_n 1, 23, 1, 0, 0) := by decide +kernel
theorem q179_23 : am_look 179 23 = some (.iinc 2 1, 26, 2, 0, 1) := by decide +kernel
theorem q179_26 : am_look 179 26 = some (.goto (-22), 29, 4, 0, 0) := by decide +kernel
theorem q179_29 : am_look 179 29 = some (.iload_n 1, 30, 1, 0, 0) := by decide +kernel
theorem q179_30 : am_look 179 30 = some (.iconst 2, 31, 0, 0, 2) := by decide +kernel
theorem q179_31 : am_look 179 31 = some (.idiv, 32, 0, 0, 0) := by decide +kernel
theorem q179_32 : am_look 179 32 = some (.ireturn, 33, 0, 0, 0) := by decide +kernel
theorem zb179 : am_zb 179 = false := by decide +kernel
theorem ml179 : am_ml 179 = 3 := by decide +kernel
theorem np179 : am_np 179 + (if am_sc 179 then 0 else 1) = 1 := by decide +kernel
theorem st179 {d : Nat} {h h1 : am_H} {r : Option am_V} (p0 : Nat) (H : am_x (am_cd d) 179 (fun r2 h2 => r2 = r ∧ h2 = h1) 0 0 [some (.inr (.inr p0)), none, none] [] h) : am_cd (d + 1) 179 [.inr (.inr p0)] h r h1 := by
  refine ⟨⟨by rw [ml179]; simp [am_en], by rw [np179]; rfl⟩, ?_⟩
  rw [ml179]; exact H
theorem q180_0 : am_look 180 0 = some (.iconst 0, 1, 0, 0, 0) := by decide +kernel
theorem q180_1 : am_look 180 1 = some (.istore_n 2, 2, 2, 0, 0) := by decide +kernel
theorem q180_2 : am_look 180 2 = some (.iload_n 2, 3, 2, 0, 0) := by decide +kernel
theorem q180_3 : am_look 180 3 = some (.aload_n 0, 4, 0, 0, 0) := by decide +kernel
theorem q180_4 : am_look 180 4 = some (.getfield 27, 7, 384, 0, 0) := by decide +kernel
theorem q180_7 : am_look 180 7 = some (.if_icmp .ge 29, 10, 36, 0, 0) := by decide +kernel
theorem q180_10 : am_look 180 10 = some (.aload_n 0, 11, 0, 0, 0) := by decide +kernel
theorem q180_11 : am_look 180 11 = some (.getfield 24, 14, 389, 5, 0) := by decide +kernel
theorem q180_14 : am_look 180 14 = some (.iload_n 2, 15, 2, 0, 0) := by decide +kernel
theorem q180_15 : am_look 180 15 = some (.iload_n 1, 16, 1, 0, 0) := by decide +kernel
theorem q180_16 : am_look 180 16 = some (.iconst 1, 17, 0, 0, 1) := by decide +kernel
theorem q180_17 : am_look 180 17 = some (.iload_n 2, 18, 2, 0, 0) := by decide +kernel
theorem q180_18 : am_look 180 18 = some (.ishl, 19, 0, 0, 0) := by decide +kernel
theorem q180_19 : am_look 180 19 = some (.iand, 20, 0, 0, 0) := by decide +kernel
theorem q180_20 : am_look 180 20 = some (.ifCond .eq 7, 23, 27, 0, 0) := by decide +kernel
theorem q180_23 : am_look 180 23 = some (.iconst 0, 24, 0, 0, 0) := by decide +kernel
theorem q180_24 : am_look 180 24 = some (.goto 5, 27, 29, 0, 0) := by decide +kernel
theorem q180_27 : am_look 180 27 = some (.ldc 51, 29, 0, 0, 1000000) := by decide +kernel
theorem q180_29 : am_look 180 29 = some (.iastore, 30, 0, 0, 0) := by decide +kernel
theorem q180_30 : am_look 180 30 = some (.iinc 2 1, 33, 2, 0, 1) := by decide +kernel
theorem q180_33 : am_look 180 33 = some (.goto (-31), 36, 2, 0, 0) := by decide +kernel
theorem q180_36 : am_look 180 36 = some (.aload_n 0, 37, 0, 0, 0) := by decide +kernel
theorem q180_37 : am_look 180 37 = some (.invokevirtual 31, 40, 38, 1, 6) := by decide +kernel
theorem q180_40 : am_look 180 40 = some (.istore_n 2, 41, 2, 0, 0) := by decide +kernel
theorem q180_41 : am_look 180 41 = some (.iconst 0, 42, 0, 0, 0) := by decide +kernel
theorem q180_42 : am_look 180 42 = some (.istore_n 3, 43, 3, 0, 0) := by decide +kernel
theorem q180_43 : am_look 180 43 = some (.iload_n 3, 44, 3, 0, 0) := by decide +kernel
theorem q180_44 : am_look 180 44 = some (.aload_n 0, 45, 0, 0, 0) := by decide +kernel
theorem q180_45 : am_look 180 45 = some (.getfield 27, 48, 384, 0, 0) := by decide +kernel
theorem q180_48 : am_look 180 48 = some (.if_icmp .ge 38, 51, 86, 0, 0) := by decide +kernel
theorem q180_51 : am_look 180 51 = some (.aload_n 0, 52, 0, 0, 0) := by decide +kernel
theorem q180_52 : am_look 180 52 = some (.iload_n 2, 53, 2, 0, 0) := by decide +kernel
theorem q180_53 : am_look 180 53 = some (.invokevirtual 52, 56, 48, 2, 6) := by decide +kernel
theorem q180_56 : am_look 180 56 = some (.istore 4, 58, 4, 0, 0) := by decide +kernel
theorem q180_58 : am_look 180 58 = some (.iload 4, 60, 4, 0, 0) := by decide +kernel
theorem q180_60 : am_look 180 60 = some (.iconst (-1), 61, 0, 0, (-1)) := by decide +kernel
theorem q180_61 : am_look 180 61 = some (.if_icmp .ne 4, 64, 65, 0, 0) := by decide +kernel
theorem q180_64 : am_look 180 64 = some (.return_, 65, 0, 0, 0) := by decide +kernel
theorem q180_65 : am_look 180 65 = some (.iload_n 2, 66, 2, 0, 0) := by decide +kernel
theorem q180_66 : am_look 180 66 = some (.iconst 1, 67, 0, 0, 1) := by decide +kernel
theorem q180_67 : am_look 180 67 = some (.iload 4, 69, 4, 0, 0) := by decide +kernel
theorem q180_69 : am_look 180 69 = some (.ishl, 70, 0, 0, 0) := by decide +kernel
theorem q180_70 : am_look 180 70 = some (.iconst (-1), 71, 0, 0, (-1)) := by decide +kernel
theorem q180_71 : am_look 180 71 = some (.ixor, 72, 0, 0, 0) := by decide +kernel
theorem q180_72 : am_look 180 72 = some (.iand, 73, 0, 0, 0) := by decide +kernel
theorem q180_73 : am_look 180 73 = some (.istore_n 2, 74, 2, 0, 0) := by decide +kernel
theorem q180_74 : am_look 180 74 = some (.aload_n 0, 75, 0, 0, 0) := by decide +kernel
theorem q180_75 : am_look 180 75 = some (.iload 4, 77, 4, 0, 0) := by decide +kernel
theorem q180_77 : am_look 180 77 = some (.invokevirtual 55, 80, 146, 2, 6) := by decide +kernel
theorem q180_80 : am_look 180 80 = some (.iinc 3 1, 83, 3, 0, 1) := by decide +kernel
theorem q180_83 : am_look 180 83 = some (.goto (-40), 86, 43, 0, 0) := by decide +kernel
theorem q180_86 : am_look 180 86 = some (.return_, 87, 0, 0, 0) := by decide +kernel
theorem zb180 : am_zb 180 = false := by decide +kernel
theorem ml180 : am_ml 180 = 5 := by decide +kernel
theorem np180 : am_np 180 + (if am_sc 180 then 0 else 1) = 2 := by decide +kernel
theorem st180 {d : Nat} {h h1 : am_H} {r : Option am_V} (p0 : Nat) (a1 : Int) (H : am_x (am_cd d) 180 (fun r2 h2 => r2 = r ∧ h2 = h1) 0 0 [some (.inr (.inr p0)), some (.inl a1), none, none, none] [] h) : am_cd (d + 1) 180 [.inr (.inr p0), .inl a1] h r h1 := by
  refine ⟨⟨by rw [ml180]; simp [am_en], by rw [np180]; rfl⟩, ?_⟩
  rw [ml180]; exact H
theorem q181_0 : am_look 181 0 = some (.iconst 0, 1, 0, 0, 0) := by decide +kernel
theorem q181_1 : am_look 181 1 = some (.istore_n 1, 2, 1, 0, 0) := by decide +kernel
theorem q181_2 : am_look 181 2 = some (.iload_n 1, 3, 1, 0, 0) := by decide +kernel
theorem q181_3 : am_look 181 3 = some (.aload_n 0, 4, 0, 0, 0) := by decide +kernel
theorem q181_4 : am_look 181 4 = some (.getfield 20, 7, 512, 0, 0) := by decide +kernel
theorem q181_7 : am_look 181 7 = some (.invokevirtual 24, 10, 36, 1, 6) := by decide +kernel
theorem q181_10 : am_look 181 10 = some (.if_icmp .ge 42, 13, 52, 0, 0) := by decide +kernel
theorem q181_13 : am_look 181 13 = some (.aload_n 0, 14, 0, 0, 0) := by decide +kernel
theorem q181_14 : am_look 181 14 = some (.getfield 11, 17, 513, 1, 0) := by decide +kernel
theorem q181_17 : am_look 181 17 = some (.iload_n 1, 18, 1, 0, 0) := by decide +kernel
theorem q181_18 : am_look 181 18 = some (.aload_n 0, 19, 0, 0, 0) := by decide +kernel
theorem q181_19 : am_look 181 19 = some (.getfield 20, 22, 512, 0, 0) := by decide +kernel
theorem q181_22 : am_look 181 22 = some (.iload_n 1, 23, 1, 0, 0) := by decide +kernel
theorem q181_23 : am_look 181 23 = some (.invokevirtual 28, 26, 145, 2, 6) := by decide +kernel
theorem q181_26 : am_look 181 26 = some (.iastore, 27, 0, 0, 0) := by decide +kernel
theorem q181_27 : am_look 181 27 = some (.aload_n 0, 28, 0, 0, 0) := by decide +kernel
theorem q181_28 : am_look 181 28 = some (.getfield 17, 31, 514, 2, 0) := by decide +kernel
theorem q181_31 : am_look 181 31 = some (.iload_n 1, 32, 1, 0, 0) := by decide +kernel
theorem q181_32 : am_look 181 32 = some (.aload_n 0, 33, 0, 0, 0) := by decide +kernel
theorem q181_33 : am_look 181 33 = some (.getfield 20, 36, 512, 0, 0) := by decide +kernel
theorem q181_36 : am_look 181 36 = some (.aload_n 0, 37, 0, 0, 0) := by decide +kernel
theorem q181_37 : am_look 181 37 = some (.getfield 11, 40, 513, 1, 0) := by decide +kernel
theorem q181_40 : am_look 181 40 = some (.iload_n 1, 41, 1, 0, 0) := by decide +kernel
theorem q181_41 : am_look 181 41 = some (.iaload, 42, 0, 0, 0) := by decide +kernel
theorem q181_42 : am_look 181 42 = some (.invokevirtual 32, 45, 44, 2, 6) := by decide +kernel
theorem q181_45 : am_look 181 45 = some (.iastore, 46, 0, 0, 0) := by decide +kernel
theorem q181_46 : am_look 181 46 = some (.iinc 1 1, 49, 1, 0, 1) := by decide +kernel
theorem q181_49 : am_look 181 49 = some (.goto (-47), 52, 2, 0, 0) := by decide +kernel
theorem q181_52 : am_look 181 52 = some (.return_, 53, 0, 0, 0) := by decide +kernel
theorem zb181 : am_zb 181 = false := by decide +kernel
theorem ml181 : am_ml 181 = 2 := by decide +kernel
theorem np181 : am_np 181 + (if am_sc 181 then 0 else 1) = 1 := by decide +kernel
theorem st181 {d : Nat} {h h1 : am_H} {r : Option am_V} (p0 : Nat) (H : am_x (am_cd d) 181 (fun r2 h2 => r2 = r ∧ h2 = h1) 0 0 [some (.inr (.inr p0)), none] [] h) : am_cd (d + 1) 181 [.inr (.inr p0)] h r h1 := by
  refine ⟨⟨by rw [ml181]; simp [am_en], by rw [np181]; rfl⟩, ?_⟩
  rw [ml181]; exact H
theorem q182_0 : am_look 182 0 = some (.aload_n 0, 1, 0, 0, 0) := by decide +kernel
theorem q182_1 : am_look 182 1 = some (.invokevirtual 45, 4, 149, 1, 9) := by decide +kernel
theorem q182_4 : am_look 182 4 = some (.istore_n 2, 5, 2, 0, 0) := by decide +kernel
theorem q182_5 : am_look 182 5 = some (.iload_n 2, 6, 2, 0, 0) := by decide +kernel
theorem q182_6 : am_look 182 6 = some (.iconst (-1), 7, 0, 0, (-1)) := by decide +kernel
theorem q182_7 : am_look 182 7 = some (.if_icmp .ne 8, 10, 15, 0, 0) := by decide +kernel
theorem q182_10 : am_look 182 10 = some (.aload_n 0, 11, 0, 0, 0) := by decide +kernel
theorem q182_11 : am_look 182 11 = some (.iload_n 1, 12, 1, 0, 0) := by decide +kernel
theorem q182_12 : am_look 182 12 = some (.invokevirtual 49, 15, 150, 2, 9) := by decide +kernel
theorem q182_15 : am_look 182 15 = some (.aload_n 0, 16, 0, 0, 0) := by decide +kernel
theorem q182_16 : am_look 182 16 = some (.iconst 0, 17, 0, 0, 0) := by decide +kernel
theorem q182_17 : am_look 182 17 = some (.putfield 39, 20, 577, 1, 0) := by decide +kernel
theorem q182_20 : am_look 182 20 = some (.iload_n 2, 21, 2, 0, 0) := by decide +kernel
theorem q182_21 : am_look 182 21 = some (.ireturn, 22, 0, 0, 0) := by decide +kernel
theorem zb182 : am_zb 182 = false := by decide +kernel
theorem ml182 : am_ml 182 = 3 := by decide +kernel
theorem np182 : am_np 182 + (if am_sc 182 then 0 else 1) = 2 := by decide +kernel
theorem st182 {d : Nat} {h h1 : am_H} {r : Option am_V} (p0 : Nat) (a1 : Int) (H : am_x (am_cd d) 182 (fun r2 h2 => r2 = r ∧ h2 = h1) 0 0 [some (.inr (.inr p0)), some (.inl a1), none] [] h) : am_cd (d + 1) 182 [.inr (.inr p0), .inl a1] h r h1 := by
  refine ⟨⟨by rw [ml182]; simp [am_en], by rw [np182]; rfl⟩, ?_⟩
  rw [ml182]; exact H
theorem q183_0 : am_look 183 0 = some (.aload_n 0, 1, 0, 0, 0) := by decide +kernel
theorem q183_1 : am_look 183 1 = some (.iload_n 1, 2, 1, 0, 0) := by decide +kernel
theorem q183_2 : am_look 183 2 = some (.iload_n 2, 3, 2, 0, 0) := by decide +kernel
theorem q183_3 : am_look 183 3 = some (.invokevirtual 81, 6, 151, 3, 9) := by decide +kernel
theorem q183_6 : am_look 183 6 = some (.istore_n 3, 7, 3, 0, 0) := by decide +kernel
theorem q183_7 : am_look 183 7 = some (.aload_n 0, 8, 0, 0, 0) := by decide +kernel
theorem q183_8 : am_look 183 8 = some (.getfield 35, 11, 576, 0, 0) := by decide +kernel
theorem q183_11 : am_look 183 11 = some (.aload_n 0, 12, 0, 0, 0) := by decide +kernel
theorem q183_12 : am_look 183 12 = some (.getfield 32, 15, 585, 9, 0) := by decide +kernel
theorem q183_15 : am_look 183 15 = some (.iload_n 3, 16, 3, 0, 0) := by decide +kernel
theorem q183_16 : am_look 183 16 = some (.invokevirtual 84, 19, 143, 3, 4) := by decide +kernel
theorem q183_19 : am_look 183 19 = some (.ireturn, 20, 0, 0, 0) := by decide +kernel
theorem zb183 : am_zb 183 = false := by decide +kernel
theorem ml183 : am_ml 183 = 4 := by decide +kernel
theorem np183 : am_np 183 + (if am_sc 183 then 0 else 1) = 3 := by decide +kernel
theorem st183 {d : Nat} {h h1 : am_H} {r : Option am_V} (p0 : Nat) (a1 : Int) (a2 : Int) (H : am_x (am_cd d) 183 (fun r2 h2 => r2 = r ∧ h2 = h1) 0 0 [some (.inr (.inr p0)), some (.inl a1), some (.inl a2), none] [] h) : am_cd (d + 1) 183 [.inr (.inr p0), .inl a1, .inl a2] h r h1 := by
  refine ⟨⟨by rw [ml183]; simp [am_en], by rw [np183]; rfl⟩, ?_⟩
  rw [ml183]; exact H
theorem q184_0 : am_look 184 0 = some (.aload_n 0, 1, 0, 0, 0) := by decide +kernel
theorem q184_1 : am_look 184 1 = some (.getfield 26, 4, 706, 2, 0) := by decide +kernel
theorem q184_4 : am_look 184 4 = some (.iload_n 1, 5, 1, 0, 0) := by decide +kernel
theorem q184_5 : am_look 184 5 = some (.invokevirtual 178, 8, 24, 2, 4) := by decide +kernel
theorem q184_8 : am_look 184 8 = some (.ifCond .eq 14, 11, 22, 0, 0) := by decide +kernel
theorem q184_11 : am_look 184 11 = some (.aload_n 0, 12, 0, 0, 0) := by decide +kernel
theorem q184_12 : am_look 184 12 = some (.getfield 26, 15, 706, 2, 0) := by decide +kernel
theorem q184_15 : am_look 184 15 = some (.iload_n 2, 16, 2, 0, 0) := by decide +kernel
theorem q184_16 : am_look 184 16 = some (.invokevirtual 178, 19, 24, 2, 4) := by decide +kernel
theorem q184_19 : am_look 184 19 = some (.ifCond .ne 10, 22, 29, 0, 0) := by decide +kernel
theorem q184_22 : am_look 184 22 = some (.aload_n 0, 23, 0, 0, 0) := by decide +kernel
theorem q184_23 : am_look 184 23 = some (.ldc 100, 25, 0, 0, (-100001)) := by decide +kernel
theorem q184_25 : am_look 184 25 = some (.invokevirtual 101, 28, 70, 2, 11) := by decide +kernel
theorem q184_28 : am_look 184 28 = some (.ireturn, 29, 0, 0, 0) := by decide +kernel
theorem q184_29 : am_look 184 29 = some (.aload_n 0, 30, 0, 0, 0) := by decide +kernel
theorem q184_30 : am_look 184 30 = some (.getfield 26, 33, 706, 2, 0) := by decide +kernel
theorem q184_33 : am_look 184 33 = some (.iload_n 1, 34, 1, 0, 0) := by decide +kernel
theorem q184_34 : am_look 184 34 = some (.iload_n 2, 35, 2, 0, 0) := by decide +kernel
theorem q184_35 : am_look 184 35 = some (.invokevirtual 184, 38, 144, 3, 4) := by decide +kernel
theorem q184_38 : am_look 184 38 = some (.ireturn, 39, 0, 0, 0) := by decide +kernel
theorem zb184 : am_zb 184 = false := by decide +kernel
theorem ml184 : am_ml 184 = 3 := by decide +kernel
theorem np184 : am_np 184 + (if am_sc 184 then 0 else 1) = 3 := by decide +kernel
theorem st184 {d : Nat} {h h1 : am_H} {r : Option am_V} (p0 : Nat) (a1 : Int) (a2 : Int) (H : am_x (am_cd d) 184 (fun r2 h2 => r2 = r ∧ h2 = h1) 0 0 [some (.inr (.inr p0)), some (.inl a1), some (.inl a2)] [] h) : am_cd (d + 1) 184 [.inr (.inr p0), .inl a1, .inl a2] h r h1 := by
  refine ⟨⟨by rw [ml184]; simp [am_en], by rw [np184]; rfl⟩, ?_⟩
  rw [ml184]; exact H
theorem q185_0 : am_look 185 0 = some (.aload_n 0, 1, 0, 0, 0) := by decide +kernel
theorem q185_1 : am_look 185 1 = some (.getfield 10, 4, 704, 0, 0) := by decide +kernel
theorem q185_4 : am_look 185 4 = some (.iload_n 1, 5, 1, 0, 0) := by decide +kernel
theorem q185_5 : am_look 185 5 = some (.invokevirtual 118, 8, 37, 2, 6) := by decide +kernel
theorem q185_8 : am_look 185 8 = some (.ifCond .eq 17, 11, 25, 0, 0) := by decide +kernel
theorem q185_11 : am_look 185 11 = some (.iload_n 2, 12, 2, 0, 0) := by decide +kernel
theorem q185_12 : am_look 185 12 = some (.invokestatic 187, 15, 72, 1, 99) := by decide +kernel
theorem q185_15 : am_look 185 15 = some (.ifCond .eq 10, 18, 25, 0, 0) := by decide +kernel
theorem q185_18 : am_look 185 18 = some (.iload_n 3, 19, 3, 0, 0) := by decide +kernel
theorem q185_19 : am_look 185 19 = some (.invokestatic 143, 22, 71, 1, 99) := by decide +kernel
theorem q185_22 : am_look 185 22 = some (.ifCond .ne 10, 25, 32, 0, 0) := by decide +kernel
theorem q185_25 : am_look 185 25 = some (.aload_n 0, 26, 0, 0, 0) := by decide +kernel
theorem q185_26 : am_look 185 26 = some (.ldc 100, 28, 0, 0, (-100001)) := by decide +kernel
theorem q185_28 : am_look 185 28 = some (.invokevirtual 101, 31, 70, 2, 11) := by decide +kernel
theorem q185_31 : am_look 185 31 = some (.ireturn, 32, 0, 0, 0) := by decide +kernel
theorem q185_32 : am_look 185 32 = some (.aload_n 0, 33, 0, 0, 0) := by decide +kernel
theorem q185_33 : am_look 185 33 = some (.getfield 35, 36, 707, 3, 0) := by decide +kernel
theorem q185_36 : am_look 185 36 = some (.iload_n 1, 37, 1, 0, 0) := by decide +kernel
theorem q185_37 : am_look 185 37 = some (.iload_n 2, 38, 2, 0, 0) := by decide +kernel
theorem q185_38 : am_look 185 38 = some (.iload_n 3, 39, 3, 0, 0) := by decide +kernel
theorem q185_39 : am_look 185 39 = some (.invokevirtual 207, 42, 139, 4, 0) := by decide +kernel
theorem q185_42 : am_look 185 42 = some (.istore 4, 44, 4, 0, 0) := by decide +kernel
theorem q185_44 : am_look 185 44 = some (.iload 4, 46, 4, 0, 0) := by decide +kernel
theorem q185_46 : am_look 185 46 = some (.iconst (-1), 47, 0, 0, (-1)) := by decide +kernel
theorem q185_47 : am_look 185 47 = some (.if_icmp .ne 12, 50, 59, 0, 0) := by decide +kernel
theorem q185_50 : am_look 185 50 = some (.aload_n 0, 51, 0, 0, 0) := by decide +kernel
theorem q185_51 : am_look 185 51 = some (.ldc 210, 53, 0, 0, (-100006)) := by decide +kernel
theorem q185_53 : am_look 185 53 = some (.invokevirtual 101, 56, 70, 2, 11) := by decide +kernel
theorem q185_56 : am_look 185 56 = some (.goto 5, 59, 61, 0, 0) := by decide +kernel
theorem q185_59 : am_look 185 59 = some (.iload 4, 61, 4, 0, 0) := by decide +kernel
theorem q185_61 : am_look 185 61 = some (.ireturn, 62, 0, 0, 0) := by decide +kernel
theorem zb185 : am_zb 185 = false := by decide +kernel
theorem ml185 : am_ml 185 = 5 := by decide +kernel
theorem np185 : am_np 185 + (if am_sc 185 then 0 else 1) = 4 := by decide +kernel
theorem st185 {d : Nat} {h h1 : am_H} {r : Option am_V} (p0 : Nat) (a1 : Int) (a2 : Int) (a3 : Int) (H : am_x (am_cd d) 185 (fun r2 h2 => r2 = r ∧ h2 = h1) 0 0 [some (.inr (.inr p0)), some (.inl a1), some (.inl a2), some (.inl a3), none] [] h) : am_cd (d + 1) 185 [.inr (.inr p0), .inl a1, .inl a2, .inl a3] h r h1 := by
  refine ⟨⟨by rw [ml185]; simp [am_en], by rw [np185]; rfl⟩, ?_⟩
  rw [ml185]; exact H
theorem q186_0 : am_look 186 0 = some (.aload_n 0, 1, 0, 0, 0) := by decide +kernel
theorem q186_1 : am_look 186 1 = some (.getfield 10, 4, 704, 0, 0) := by decide +kernel
theorem q186_4 : am_look 186 4 = some (.iload_n 1, 5, 1, 0, 0) := by decide +kernel
theorem q186_5 : am_look 186 5 = some (.invokevirtual 118, 8, 37, 2, 6) := by decide +kernel
theorem q186_8 : am_look 186 8 = some (.ifCond .eq 29, 11, 37, 0, 0) := by decide +kernel
theorem q186_11 : am_look 186 11 = some (.iload_n 2, 12, 2, 0, 0) := by decide +kernel
theorem q186_12 : am_look 186 12 = some (.invokestatic 187, 15, 72, 1, 99) := by decide +kernel
theorem q186_15 : am_look 186 15 = some (.ifCond .eq 22, 18, 37, 0, 0) := by decide +kernel
theorem q186_18 : am_look 186 18 = some (.aload_n 0, 19, 0, 0, 0) := by decide +kernel
theorem q186_19 : am_look 186 19 = some (.getfield 26, 22, 706, 2, 0) := by decide +kernel
theorem q186_22 : am_look 186 22 = some (.iload_n 3, 23, 3, 0, 0) := by decide +kernel
theorem q186_23 : am_look 186 23 = some (.invokevirtual 178, 26, 24, 2, 4) := by decide +kernel
theorem q186_26 : am_look 186 26 = some (.ifCond .eq 11, 29, 37, 0, 0) := by decide +kernel
theorem q186_29 : am_look 186 29 = some (.iload 4, 31, 4, 0, 0) := by decide +kernel
theorem q186_31 : am_look 186 31 = some (.invokestatic 143, 34, 71, 1, 99) := by decide +kernel
theorem q186_34 : am_look 186 34 = some (.ifCond .ne 10, 37, 44, 0, 0) := by decide +kernel
theorem q186_37 : am_look 186 37 = some (.aload_n 0, 38, 0, 0, 0) := by decide +kernel
theorem q186_38 : am_look 186 38 = some (.ldc 100, 40, 0, 0, (-100001)) := by decide +kernel
theorem q186_40 : am_look 186 40 = some (.invokevirtual 101, 43, 70, 2, 11) := by decide +kernel
theorem q186_43 : am_look 186 43 = some (.ireturn, 44, 0, 0, 0) := by decide +kernel
theorem q186_44 : am_look 186 44 = some (.aload_n 0, 45, 0, 0, 0) := by decide +kernel
theorem q186_45 : am_look 186 45 = some (.getfield 35, 48, 707, 3, 0) := by decide +kernel
theorem q186_48 : am_look 186 48 = some (.iload_n 1, 49, 1, 0, 0) := by decide +kernel
theorem q186_49 : am_look 186 49 = some (.iload_n 2, 50, 2, 0, 0) := by decide +kernel
theorem q186_50 : am_look 186 50 = some (.iload_n 3, 51, 3, 0, 0) := by decide +kernel
theorem q186_51 : am_look 186 51 = some (.iload 4, 53, 4, 0, 0) := by decide +kernel
theorem q186_53 : am_look 186 53 = some (.invokevirtual 211, 56, 138, 5, 0) := by decide +kernel
theorem q186_56 : am_look 186 56 = some (.ireturn, 57, 0, 0, 0) := by decide +kernel
theorem zb186 : am_zb 186 = false := by decide +kernel
theorem ml186 : am_ml 186 = 5 := by decide +kernel
theorem np186 : am_np 186 + (if am_sc 186 then 0 else 1) = 5 := by decide +kernel
theorem st186 {d : Nat} {h h1 : am_H} {r : Option am_V} (p0 : Nat) (a1 : Int) (a2 : Int) (a3 : Int) (a4 : Int) (H : am_x (am_cd d) 186 (fun r2 h2 => r2 = r ∧ h2 = h1) 0 0 [some (.inr (.inr p0)), some (.inl a1), some (.inl a2), some (.inl a3), some (.inl a4)] [] h) : am_cd (d + 1) 186 [.inr (.inr p0), .inl a1, .inl a2, .inl a3, .inl a4] h r h1 := by
  refine ⟨⟨by rw [ml186]; simp [am_en], by rw [np186]; rfl⟩, ?_⟩
  rw [ml186]; exact H
theorem q187_0 : am_look 187 0 = some (.aload_n 0, 1, 0, 0, 0) := by decide +kernel
theorem q187_1 : am_look 187 1 = some (.getfield 26, 4, 706, 2, 0) := by decide +kernel
theorem q187_4 : am_look 187 4 = some (.iload_n 1, 5, 1, 0, 0) := by decide +kernel
theorem q187_5 : am_look 187 5 = some (.invokevirtual 178, 8, 24, 2, 4) := by decide +kernel
theorem q187_8 : am_look 187 8 = some (.ifCond .eq 10, 11, 18, 0, 0) := by decide +kernel
theorem q187_11 : am_look 187 11 = some (.iload_n 2, 12, 2, 0, 0) := by decide +kernel
theorem q187_12 : am_look 187 12 = some (.invokestatic 221, 15, 60, 1, 99) := by decide +kernel
theorem q187_15 : am_look 187 15 = some (.ifCond .ne 10, 18, 25, 0, 0) := by decide +kernel
theorem q187_18 : am_look 187 18 = some (.aload_n 0, 19, 0, 0, 0) := by decide +kernel
theorem q187_19 : am_look 187 19 = some (.ldc 100, 21, 0, 0, (-100001)) := by decide +kernel
theorem q187_21 : am_look 187 21 = some (.invokevirtual 101, 24, 70, 2, 11) := by decide +kernel
theorem q187_24 : am_look 187 24 = some (.ireturn, 25, 0, 0, 0) := by decide +kernel
theorem q187_25 : am_look 187 25 = some (.aload_n 0, 26, 0, 0, 0) := by decide +kernel
theorem q187_26 : am_look 187 26 = some (.getfield 44, 29, 708, 4, 0) := by decide +kernel
theorem q187_29 : am_look 187 29 = some (.iload_n 1, 30, 1, 0, 0) := by decide +kernel
theorem q187_30 : am_look 187 30 = some (.iload_n 2, 31, 2, 0, 0) := by decide +kernel
theorem q187_31 : am_look 187 31 = some (.invokevirtual 230, 34, 151, 3, 9) := by decide +kernel
theorem q187_34 : am_look 187 34 = some (.istore 4, 36, 4, 0, 0) := by decide +kernel
theorem q187_36 : am_look 187 36 = some (.iload_n 3, 37, 3, 0, 0) := by decide +kernel
theorem q187_37 : am_look 187 37 = some (.iconst (-1), 38, 0, 0, (-1)) := by decide +kernel
theorem q187_38 : am_look 187 38 = some (.if_icmp .lt 9, 41, 47, 0, 0) := by decide +kernel
theorem q187_41 : am_look 187 41 = some (.iload_n 3, 42, 3, 0, 0) := by decide +kernel
theorem q187_42 : am_look 187 42 = some (.iload 4, 44, 4, 0, 0) := by decide +kernel
theorem q187_44 : am_look 187 44 = some (.if_icmp .lt 10, 47, 54, 0, 0) := by decide +kernel
theorem q187_47 : am_look 187 47 = some (.aload_n 0, 48, 0, 0, 0) := by decide +kernel
theorem q187_48 : am_look 187 48 = some (.ldc 100, 50, 0, 0, (-100001)) := by decide +kernel
theorem q187_50 : am_look 187 50 = some (.invokevirtual 101, 53, 70, 2, 11) := by decide +kernel
theorem q187_53 : am_look 187 53 = some (.ireturn, 54, 0, 0, 0) := by decide +kernel
theorem q187_54 : am_look 187 54 = some (.iload_n 3, 55, 3, 0, 0) := by decide +kernel
theorem q187_55 : am_look 187 55 = some (.ifCond .ge 8, 58, 63, 0, 0) := by decide +kernel
theorem q187_58 : am_look 187 58 = some (.iload 4, 60, 4, 0, 0) := by decide +kernel
theorem q187_60 : am_look 187 60 = some (.goto 11, 63, 71, 0, 0) := by decide +kernel
theorem q187_63 : am_look 187 63 = some (.aload_n 0, 64, 0, 0, 0) := by decide +kernel
theorem q187_64 : am_look 187 64 = some (.getfield 44, 67, 708, 4, 0) := by decide +kernel
theorem q187_67 : am_look 187 67 = some (.iload_n 3, 68, 3, 0, 0) := by decide +kernel
theorem q187_68 : am_look 187 68 = some (.invokevirtual 233, 71, 66, 2, 9) := by decide +kernel
theorem q187_71 : am_look 187 71 = some (.ireturn, 72, 0, 0, 0) := by decide +kernel
theorem zb187 : am_zb 187 = false := by decide +kernel
theorem ml187 : am_ml 187 = 5 := by decide +kernel
theorem np187 : am_np 187 + (if am_sc 187 then 0 else 1) = 4 := by decide +kernel
theorem st187 {d : Nat} {h h1 : am_H} {r : Option am_V} (p0 : Nat) (a1 : Int) (a2 : Int) (a3 : Int) (H : am_x (am_cd d) 187 (fun r2 h2 => r2 = r ∧ h2 = h1) 0 0 [some (.inr (.inr p0)), some (.inl a1), some (.inl a2), some (.inl a3), none] [] h) : am_cd (d + 1) 187 [.inr (.inr p0), .inl a1, .inl a2, .inl a3] h r h1 := by
  refine ⟨⟨by rw [ml187]; simp [am_en], by rw [np187]; rfl⟩, ?_⟩
  rw [ml187]; exact H
theorem q188_0 : am_look 188 0 = some (.iload_n 1, 1, 1, 0, 0) := by decide +kernel
theorem q188_1 : am_look 188 1 = some (.invokestatic 258, 4, 51, 1, 99) := by decide +kernel
theorem q188_4 : am_look 188 4 = some (.ifCond .eq 10, 7, 14, 0, 0) := by decide +kernel
theorem q188_7 : am_look 188 7 = some (.iload_n 2, 8, 2, 0, 0) := by decide +kernel
theorem q188_8 : am_look 188 8 = some (.invokestatic 309, 11, 52, 1, 99) := by decide +kernel
theorem q188_11 : am_look 188 11 = some (.ifCond .ne 10, 14, 21, 0, 0) := by decide +kernel
theorem q188_14 : am_look 188 14 = some (.aload_n 0, 15, 0, 0, 0) := by decide +kernel
theorem q188_15 : am_look 188 15 = some (.ldc 100, 17, 0, 0, (-100001)) := by decide +kernel
theorem q188_17 : am_look 188 17 = some (.invokevirtual 101, 20, 70, 2, 11) := by decide +kernel
theorem q188_20 : am_look 188 20 = some (.ireturn, 21, 0, 0, 0) := by decide +kernel
theorem q188_21 : am_look 188 21 = some (.iload_n 3, 22, 3, 0, 0) := by decide +kernel
theorem q188_22 : am_look 188 22 = some (.ifCond .ge 10, 25, 32, 0, 0) := by decide +kernel
theorem q188_25 : am_look 188 25 = some (.aload_n 0, 26, 0, 0, 0) := by decide +kernel
theorem q188_26 : am_look 188 26 = some (.ldc 122, 28, 0, 0, (-100003)) := by decide +kernel
theorem q188_28 : am_look 188 28 = some (.invokevirtual 101, 31, 70, 2, 11) := by decide +kernel
theorem q188_31 : am_look 188 31 = some (.ireturn, 32, 0, 0, 0) := by decide +kernel
theorem q188_32 : am_look 188 32 = some (.iload_n 3, 33, 3, 0, 0) := by decide +kernel
theorem q188_33 : am_look 188 33 = some (.bipush 20, 35, 0, 0, 20) := by decide +kernel
theorem q188_35 : am_look 188 35 = some (.if_icmp .le 10, 38, 45, 0, 0) := by decide +kernel
theorem q188_38 : am_look 188 38 = some (.aload_n 0, 39, 0, 0, 0) := by decide +kernel
theorem q188_39 : am_look 188 39 = some (.ldc 100, 41, 0, 0, (-100001)) := by decide +kernel
theorem q188_41 : am_look 188 41 = some (.invokevirtual 101, 44, 70, 2, 11) := by decide +kernel
theorem q188_44 : am_look 188 44 = some (.ireturn, 45, 0, 0, 0) := by decide +kernel
theorem q188_45 : am_look 188 45 = some (.aload_n 0, 46, 0, 0, 0) := by decide +kernel
theorem q188_46 : am_look 188 46 = some (.getfield 85, 49, 713, 9, 0) := by decide +kernel
theorem q188_49 : am_look 188 49 = some (.iload_n 1, 50, 1, 0, 0) := by decide +kernel
theorem q188_50 : am_look 188 50 = some (.iload_n 2, 51, 2, 0, 0) := by decide +kernel
theorem q188_51 : am_look 188 51 = some (.iload_n 3, 52, 3, 0, 0) := by decide +kernel
theorem q188_52 : am_look 188 52 = some (.invokevirtual 312, 55, 147, 4, 7) := by decide +kernel
theorem q188_55 : am_look 188 55 = some (.ireturn, 56, 0, 0, 0) := by decide +kernel
theorem zb188 : am_zb 188 = false := by decide +kernel
theorem ml188 : am_ml 188 = 4 := by decide +kernel
theorem np188 : am_np 188 + (if am_sc 188 then 0 else 1) = 4 := by decide +kernel
theorem st188 {d : Nat} {h h1 : am_H} {r : Option am_V} (p0 : Nat) (a1 : Int) (a2 : Int) (a3 : Int) (H : am_x (am_cd d) 188 (fun r2 h2 => r2 = r ∧ h2 = h1) 0 0 [some (.inr (.inr p0)), some (.inl a1), some (.inl a2), some (.inl a3)] [] h) : am_cd (d + 1) 188 [.inr (.inr p0), .inl a1, .inl a2, .inl a3] h r h1 := by
  refine ⟨⟨by rw [ml188]; simp [am_en], by rw [np188]; rfl⟩, ?_⟩
  rw [ml188]; exact H
theorem q189_0 : am_look 189 0 = some (.iconst 0, 1, 0, 0, 0) := by decide +kernel
theorem q189_1 : am_look 189 1 = some (.istore_n 2, 2, 2, 0, 0) := by decide +kernel
theorem q189_2 : am_look 189 2 = some (.iconst 0, 3, 0, 0, 0) := by decide +kernel
theorem q189_3 : am_look 189 3 = some (.istore_n 3, 4, 3, 0, 0) := by decide +kernel
theorem q189_4 : am_look 189 4 = some (.iload_n 3, 5, 3, 0, 0) := by decide +kernel
theorem q189_5 : am_look 189 5 = some (.aload_n 0, 6, 0, 0, 0) := by decide +kernel
theorem q189_6 : am_look 189 6 = some (.getfield 10, 9, 704, 0, 0) := by decide +kernel
theorem q189_9 : am_look 189 9 = some (.invokevirtual 105, 12, 36, 1, 6) := by decide +kernel
theorem q189_12 : am_look 189 12 = some (.if_icmp .ge 32, 15, 44, 0, 0) := by decide +kernel
theorem q189_15 : am_look 189 15 = some (.aload_n 0, 16, 0, 0, 0) := by decide +kernel
theorem q189_16 : am_look 189 16 = some (.getfield 35, 19, 707, 3, 0) := by decide +kernel
theorem q189_19 : am_look 189 19 = some (.iload_n 3, 20, 3, 0, 0) := by decide +kernel
theorem q189_20 : am_look 189 20 = some (.iload_n 1, 21, 1, 0, 0) := by decide +kernel
theorem q189_21 : am_look 189 21 = some (.aload_n 0, 22, 0, 0, 0) := by decide +kernel
theorem q189_22 : am_look 189 22 = some (.getfield 146, 25, 716, 12, 0) := by decide +kernel
theorem q189_25 : am_look 189 25 = some (.invokevirtual 207, 28, 139, 4, 0) := by decide +kernel
theorem q189_28 : am_look 189 28 = some (.iconst (-1), 29, 0, 0, (-1)) := by decide +kernel
theorem q189_29 : am_look 189 29 = some (.if_icmp .eq 9, 32, 38, 0, 0) := by decide +kernel
theorem q189_32 : am_look 189 32 = some (.iload_n 2, 33, 2, 0, 0) := by decide +kernel
theorem q189_33 : am_look 189 33 = some (.iconst 1, 34, 0, 0, 1) := by decide +kernel
theorem q189_34 : am_look 189 34 = some (.iload_n 3, 35, 3, 0, 0) := by decide +kernel
theorem q189_35 : am_look 189 35 = some (.ishl, 36, 0, 0, 0) := by decide +kernel
theorem q189_36 : am_look 189 36 = some (.ior, 37, 0, 0, 0) := by decide +kernel
theorem q189_37 : am_look 189 37 = some (.istore_n 2, 38, 2, 0, 0) := by decide +kernel
theorem q189_38 : am_look 189 38 = some (.iinc 3 1, 41, 3, 0, 1) := by decide +kernel
theorem q189_41 : am_look 189 41 = some (.goto (-37), 44, 4, 0, 0) := by decide +kernel
theorem q189_44 : am_look 189 44 = some (.iload_n 2, 45, 2, 0, 0) := by decide +kernel
theorem q189_45 : am_look 189 45 = some (.ireturn, 46, 0, 0, 0) := by decide +kernel
theorem zb189 : am_zb 189 = false := by decide +kernel
theorem ml189 : am_ml 189 = 4 := by decide +kernel
theorem np189 : am_np 189 + (if am_sc 189 then 0 else 1) = 2 := by decide +kernel
theorem st189 {d : Nat} {h h1 : am_H} {r : Option am_V} (p0 : Nat) (a1 : Int) (H : am_x (am_cd d) 189 (fun r2 h2 => r2 = r ∧ h2 = h1) 0 0 [some (.inr (.inr p0)), some (.inl a1), none, none] [] h) : am_cd (d + 1) 189 [.inr (.inr p0), .inl a1] h r h1 := by
  refine ⟨⟨by rw [ml189]; simp [am_en], by rw [np189]; rfl⟩, ?_⟩
  rw [ml189]; exact H
theorem q190_0 : am_look 190 0 = some (.aload_n 0, 1, 0, 0, 0) := by decide +kernel
theorem q190_1 : am_look 190 1 = some (.iload_n 1, 2, 1, 0, 0) := by decide +kernel
theorem q190_2 : am_look 190 2 = some (.invokevirtual 100, 5, 114, 2, 12) := by decide +kernel
theorem q190_5 : am_look 190 5 = some (.ifCond .eq 17, 8, 22, 0, 0) := by decide +kernel
theorem q190_8 : am_look 190 8 = some (.iload_n 2, 9, 2, 0, 0) := by decide +kernel
theorem q190_9 : am_look 190 9 = some (.invokestatic 134, 12, 116, 1, 99) := by decide +kernel
theorem q190_12 : am_look 190 12 = some (.ifCond .eq 10, 15, 22, 0, 0) := by decide +kernel
theorem q190_15 : am_look 190 15 = some (.iload_n 3, 16, 3, 0, 0) := by decide +kernel
theorem q190_16 : am_look 190 16 = some (.invokestatic 142, 19, 117, 1, 99) := by decide +kernel
theorem q190_19 : am_look 190 19 = some (.ifCond .ne 10, 22, 29, 0, 0) := by decide +kernel
theorem q190_22 : am_look 190 22 = some (.aload_n 0, 23, 0, 0, 0) := by decide +kernel
theorem q190_23 : am_look 190 23 = some (.ldc 95, 25, 0, 0, (-100001)) := by decide +kernel
theorem q190_25 : am_look 190 25 = some (.invokevirtual 91, 28, 74, 2, 12) := by decide +kernel
theorem q190_28 : am_look 190 28 = some (.ireturn, 29, 0, 0, 0) := by decide +kernel
theorem q190_29 : am_look 190 29 = some (.aload_n 0, 30, 0, 0, 0) := by decide +kernel
theorem q190_30 : am_look 190 30 = some (.iload_n 3, 31, 3, 0, 0) := by decide +kernel
theorem q190_31 : am_look 190 31 = some (.invokevirtual 145, 34, 167, 2, 12) := by decide +kernel
theorem q190_34 : am_look 190 34 = some (.aload_n 0, 35, 0, 0, 0) := by decide +kernel
theorem q190_35 : am_look 190 35 = some (.getfield 25, 38, 775, 7, 0) := by decide +kernel
theorem q190_38 : am_look 190 38 = some (.bipush 6, 40, 0, 0, 6) := by decide +kernel
theorem q190_40 : am_look 190 40 = some (.iload_n 1, 41, 1, 0, 0) := by decide +kernel
theorem q190_41 : am_look 190 41 = some (.imul, 42, 0, 0, 0) := by decide +kernel
theorem q190_42 : am_look 190 42 = some (.iload_n 2, 43, 2, 0, 0) := by decide +kernel
theorem q190_43 : am_look 190 43 = some (.iadd, 44, 0, 0, 0) := by decide +kernel
theorem q190_44 : am_look 190 44 = some (.iaload, 45, 0, 0, 0) := by decide +kernel
theorem q190_45 : am_look 190 45 = some (.istore 4, 47, 4, 0, 0) := by decide +kernel
theorem q190_47 : am_look 190 47 = some (.iload 4, 49, 4, 0, 0) := by decide +kernel
theorem q190_49 : am_look 190 49 = some (.ifCond .ge 12, 52, 61, 0, 0) := by decide +kernel
theorem q190_52 : am_look 190 52 = some (.aload_n 0, 53, 0, 0, 0) := by decide +kernel
theorem q190_53 : am_look 190 53 = some (.ldc 90, 55, 0, 0, (-100006)) := by decide +kernel
theorem q190_55 : am_look 190 55 = some (.invokevirtual 91, 58, 74, 2, 12) := by decide +kernel
theorem q190_58 : am_look 190 58 = some (.goto 5, 61, 63, 0, 0) := by decide +kernel
theorem q190_61 : am_look 190 61 = some (.iload 4, 63, 4, 0, 0) := by decide +kernel
theorem q190_63 : am_look 190 63 = some (.ireturn, 64, 0, 0, 0) := by decide +kernel
theorem zb190 : am_zb 190 = false := by decide +kernel
theorem ml190 : am_ml 190 = 5 := by decide +kernel
theorem np190 : am_np 190 + (if am_sc 190 then 0 else 1) = 4 := by decide +kernel
theorem st190 {d : Nat} {h h1 : am_H} {r : Option am_V} (p0 : Nat) (a1 : Int) (a2 : Int) (a3 : Int) (H : am_x (am_cd d) 190 (fun r2 h2 => r2 = r ∧ h2 = h1) 0 0 [some (.inr (.inr p0)), some (.inl a1), some (.inl a2), some (.inl a3), none] [] h) : am_cd (d + 1) 190 [.inr (.inr p0), .inl a1, .inl a2, .inl a3] h r h1 := by
  refine ⟨⟨by rw [ml190]; simp [am_en], by rw [np190]; rfl⟩, ?_⟩
  rw [ml190]; exact H
theorem q191_0 : am_look 191 0 = some (.aload_n 0, 1, 0, 0, 0) := by decide +kernel
theorem q191_1 : am_look 191 1 = some (.iload_n 1, 2, 1, 0, 0) := by decide +kernel
theorem q191_2 : am_look 191 2 = some (.invokevirtual 100, 5, 114, 2, 12) := by decide +kernel
theorem q191_5 : am_look 191 5 = some (.ifCond .eq 26, 8, 31, 0, 0) := by decide +kernel
theorem q191_8 : am_look 191 8 = some (.iload_n 2, 9, 2, 0, 0) := by decide +kernel
theorem q191_9 : am_look 191 9 = some (.invokestatic 134, 12, 116, 1, 99) := by decide +kernel
theorem q191_12 : am_look 191 12 = some (.ifCond .eq 19, 15, 31, 0, 0) := by decide +kernel
theorem q191_15 : am_look 191 15 = some (.aload_n 0, 16, 0, 0, 0) := by decide +kernel
theorem q191_16 : am_look 191 16 = some (.iload_n 3, 17, 3, 0, 0) := by decide +kernel
theorem q191_17 : am_look 191 17 = some (.invokevirtual 128, 20, 115, 2, 12) := by decide +kernel
theorem q191_20 : am_look 191 20 = some (.ifCond .eq 11, 23, 31, 0, 0) := by decide +kernel
theorem q191_23 : am_look 191 23 = some (.iload 4, 25, 4, 0, 0) := by decide +kernel
theorem q191_25 : am_look 191 25 = some (.invokestatic 142, 28, 117, 1, 99) := by decide +kernel
theorem q191_28 : am_look 191 28 = some (.ifCond .ne 10, 31, 38, 0, 0) := by decide +kernel
theorem q191_31 : am_look 191 31 = some (.aload_n 0, 32, 0, 0, 0) := by decide +kernel
theorem q191_32 : am_look 191 32 = some (.ldc 95, 34, 0, 0, (-100001)) := by decide +kernel
theorem q191_34 : am_look 191 34 = some (.invokevirtual 91, 37, 74, 2, 12) := by decide +kernel
theorem q191_37 : am_look 191 37 = some (.ireturn, 38, 0, 0, 0) := by decide +kernel
theorem q191_38 : am_look 191 38 = some (.aload_n 0, 39, 0, 0, 0) := by decide +kernel
theorem q191_39 : am_look 191 39 = some (.iload 4, 41, 4, 0, 0) := by decide +kernel
theorem q191_41 : am_look 191 41 = some (.invokevirtual 145, 44, 167, 2, 12) := by decide +kernel
theorem q191_44 : am_look 191 44 = some (.aload_n 0, 45, 0, 0, 0) := by decide +kernel
theorem q191_45 : am_look 191 45 = some (.iload_n 1, 46, 1, 0, 0) := by decide +kernel
theorem q191_46 : am_look 191 46 = some (.iload_n 2, 47, 2, 0, 0) := by decide +kernel
theorem q191_47 : am_look 191 47 = some (.iload_n 3, 48, 3, 0, 0) := by decide +kernel
theorem q191_48 : am_look 191 48 = some (.invokevirtual 138, 51, 127, 4, 12) := by decide +kernel
theorem q191_51 : am_look 191 51 = some (.ireturn, 52, 0, 0, 0) := by decide +kernel
theorem zb191 : am_zb 191 = false := by decide +kernel
theorem ml191 : am_ml 191 = 5 := by decide +kernel
theorem np191 : am_np 191 + (if am_sc 191 then 0 else 1) = 5 := by decide +kernel
theorem st191 {d : Nat} {h h1 : am_H} {r : Option am_V} (p0 : Nat) (a1 : Int) (a2 : Int) (a3 : Int) (a4 : Int) (H : am_x (am_cd d) 191 (fun r2 h2 => r2 = r ∧ h2 = h1) 0 0 [some (.inr (.inr p0)), some (.inl a1), some (.inl a2), some (.inl a3), some (.inl a4)] [] h) : am_cd (d + 1) 191 [.inr (.inr p0), .inl a1, .inl a2, .inl a3, .inl a4] h r h1 := by
  refine ⟨⟨by rw [ml191]; simp [am_en], by rw [np191]; rfl⟩, ?_⟩
  rw [ml191]; exact H
theorem q192_0 : am_look 192 0 = some (.iload_n 1, 1, 1, 0, 0) := by decide +kernel
theorem q192_1 : am_look 192 1 = some (.iconst 0, 2, 0, 0, 0) := by decide +kernel
theorem q192_2 : am_look 192 2 = some (.iconst 3, 3, 0, 0, 3) := by decide +kernel
theorem q192_3 : am_look 192 3 = some (.invokestatic 83, 6, 73, 3, 99) := by decide +kernel
theorem q192_6 : am_look 192 6 = some (.ifCond .ne 10, 9, 16, 0, 0) := by decide +kernel
theorem q192_9 : am_look 192 9 = some (.aload_n 0, 10, 0, 0, 0) := by decide +kernel
theorem q192_10 : am_look 192 10 = some (.ldc 95, 12, 0, 0, (-100001)) := by decide +kernel
theorem q192_12 : am_look 192 12 = some (.invokevirtual 91, 15, 74, 2, 12) := by decide +kernel
theorem q192_15 : am_look 192 15 = some (.ireturn, 16, 0, 0, 0) := by decide +kernel
theorem q192_16 : am_look 192 16 = some (.aload_n 0, 17, 0, 0, 0) := by decide +kernel
theorem q192_17 : am_look 192 17 = some (.iconst 0, 18, 0, 0, 0) := by decide +kernel
theorem q192_18 : am_look 192 18 = some (.putfield 151, 21, 783, 15, 0) := by decide +kernel
theorem q192_21 : am_look 192 21 = some (.iconst 0, 22, 0, 0, 0) := by decide +kernel
theorem q192_22 : am_look 192 22 = some (.istore_n 2, 23, 2, 0, 0) := by decide +kernel
theorem q192_23 : am_look 192 23 = some (.iconst 1, 24, 0, 0, 1) := by decide +kernel
theorem q192_24 : am_look 192 24 = some (.istore_n 3, 25, 3, 0, 0) := by decide +kernel
theorem q192_25 : am_look 192 25 = some (.iload_n 3, 26, 3, 0, 0) := by decide +kernel
theorem q192_26 : am_look 192 26 = some (.ifCond .eq 26, 29, 52, 0, 0) := by decide +kernel
theorem q192_29 : am_look 192 29 = some (.aload_n 0, 30, 0, 0, 0) := by decide +kernel
theorem q192_30 : am_look 192 30 = some (.getfield 151, 33, 783, 15, 0) := by decide +kernel
theorem q192_33 : am_look 192 33 = some (.aload_n 0, 34, 0, 0, 0) := by decide +kernel
theorem q192_34 : am_look 192 34 = some (.getfield 148, 37, 782, 14, 0) := by decide +kernel
theorem q192_37 : am_look 192 37 = some (.if_icmp .ge 15, 40, 52, 0, 0) := by decide +kernel
theorem q192_40 : am_look 192 40 = some (.aload_n 0, 41, 0, 0, 0) := by decide +kernel
theorem q192_41 : am_look 192 41 = some (.iload_n 2, 42, 2, 0, 0) := by decide +kernel
theorem q192_42 : am_look 192 42 = some (.invokevirtual 161, 45, 168, 2, 12) := by decide +kernel
theorem q192_45 : am_look 192 45 = some (.istore_n 3, 46, 3, 0, 0) := by decide +kernel
theorem q192_46 : am_look 192 46 = some (.iinc 2 1, 49, 2, 0, 1) := by decide +kernel
theorem q192_49 : am_look 192 49 = some (.goto (-24), 52, 25, 0, 0) := by decide +kernel
theorem q192_52 : am_look 192 52 = some (.aload_n 0, 53, 0, 0, 0) := by decide +kernel
theorem q192_53 : am_look 192 53 = some (.iconst 0, 54, 0, 0, 0) := by decide +kernel
theorem q192_54 : am_look 192 54 = some (.putfield 148, 57, 782, 14, 0) := by decide +kernel
theorem q192_57 : am_look 192 57 = some (.iload_n 3, 58, 3, 0, 0) := by decide +kernel
theorem q192_58 : am_look 192 58 = some (.ifCond .ne 8, 61, 66, 0, 0) := by decide +kernel
theorem q192_61 : am_look 192 61 = some (.aload_n 0, 62, 0, 0, 0) := by decide +kernel
theorem q192_62 : am_look 192 62 = some (.getfield 151, 65, 783, 15, 0) := by decide +kernel
theorem q192_65 : am_look 192 65 = some (.ireturn, 66, 0, 0, 0) := by decide +kernel
theorem q192_66 : am_look 192 66 = some (.aload_n 0, 67, 0, 0, 0) := by decide +kernel
theorem q192_67 : am_look 192 67 = some (.getfield 31, 70, 777, 9, 0) := by decide +kernel
theorem q192_70 : am_look 192 70 = some (.iload_n 1, 71, 1, 0, 0) := by decide +kernel
theorem q192_71 : am_look 192 71 = some (.iload_n 2, 72, 2, 0, 0) := by decide +kernel
theorem q192_72 : am_look 192 72 = some (.iastore, 73, 0, 0, 0) := by decide +kernel
theorem q192_73 : am_look 192 73 = some (.iconst 0, 74, 0, 0, 0) := by decide +kernel
theorem q192_74 : am_look 192 74 = some (.istore 4, 76, 4, 0, 0) := by decide +kernel
theorem q192_76 : am_look 192 76 = some (.iload 4, 78, 4, 0, 0) := by decide +kernel
theorem q192_78 : am_look 192 78 = some (.iconst 4, 79, 0, 0, 4) := by decide +kernel
theorem q192_79 : am_look 192 79 = some (.iload_n 2, 80, 2, 0, 0) := by decide +kernel
theorem q192_80 : am_look 192 80 = some (.imul, 81, 0, 0, 0) := by decide +kernel
theorem q192_81 : am_look 192 81 = some (.if_icmp .ge 28, 84, 109, 0, 0) := by decide +kernel
theorem q192_84 : am_look 192 84 = some (.aload_n 0, 85, 0, 0, 0) := by decide +kernel
theorem q192_85 : am_look 192 85 = some (.getfield 34, 88, 778, 10, 0) := by decide +kernel
theorem q192_88 : am_look 192 88 = some (.bipush 48, 90, 0, 0, 48) := by decide +kernel
theorem q192_90 : am_look 192 90 = some (.iload_n 1, 91, 1, 0, 0) := by decide +kernel
theorem q192_91 : am_look 192 91 = some (.imul, 92, 0, 0, 0) := by decide +kernel
theorem q192_92 : am_look 192 92 = some (.iload 4, 94, 4, 0, 0) := by decide +kernel
theorem q192_94 : am_look 192 94 = some (.iadd, 95, 0, 0, 0) := by decide +kernel
theorem q192_95 : am_look 192 95 = some (.aload_n 0, 96, 0, 0, 0) := by decide +kernel
theorem q192_96 : am_look 192 96 = some (.getfield 37, 99, 779, 11, 0) := by decide +kernel
theorem q192_99 : am_look 192 99 = some (.iload 4, 101, 4, 0, 0) := by decide +kernel
theorem q192_101 : am_look 192 101 = some (.iaload, 102, 0, 0, 0) := by decide +kernel
theorem q192_102 : am_look 192 102 = some (.iastore, 103, 0, 0, 0) := by decide +kernel
theorem q192_103 : am_look 192 103 = some (.iinc 4 1, 106, 4, 0, 1) := by decide +kernel
theorem q192_106 : am_look 192 106 = some (.goto (-30), 109, 76, 0, 0) := by decide +kernel
theorem q192_109 : am_look 192 109 = some (.iconst (-1), 110, 0, 0, (-1)) := by decide +kernel
theorem q192_110 : am_look 192 110 = some (.ireturn, 111, 0, 0, 0) := by decide +kernel
theorem zb192 : am_zb 192 = false := by decide +kernel
theorem ml192 : am_ml 192 = 5 := by decide +kernel
theorem np192 : am_np 192 + (if am_sc 192 then 0 else 1) = 2 := by decide +kernel
theorem st192 {d : Nat} {h h1 : am_H} {r : Option am_V} (p0 : Nat) (a1 : Int) (H : am_x (am_cd d) 192 (fun r2 h2 => r2 = r ∧ h2 = h1) 0 0 [some (.inr (.inr p0)), some (.inl a1), none, none, none] [] h) : am_cd (d + 1) 192 [.inr (.inr p0), .inl a1] h r h1 := by
  refine ⟨⟨by rw [ml192]; simp [am_en], by rw [np192]; rfl⟩, ?_⟩
  rw [ml192]; exact H
theorem q193_0 : am_look 193 0 = some (.aload_n 0, 1, 0, 0, 0) := by decide +kernel
theorem q193_1 : am_look 193 1 = some (.iload_n 1, 2, 1, 0, 0) := by decide +kernel
theorem q193_2 : am_look 193 2 = some (.invokevirtual 128, 5, 115, 2, 12) := by decide +kernel
theorem q193_5 : am_look 193 5 = some (.ifCond .eq 17, 8, 22, 0, 0) := by decide +kernel
theorem q193_8 : am_look 193 8 = some (.iload_n 2, 9, 2, 0, 0) := by decide +kernel
theorem q193_9 : am_look 193 9 = some (.iconst 0, 10, 0, 0, 0) := by decide +kernel
theorem q193_10 : am_look 193 10 = some (.iconst 3, 11, 0, 0, 3) := by decide +kernel
theorem q193_11 : am_look 193 11 = some (.invokestatic 83, 14, 73, 3, 99) := by decide +kernel
theorem q193_14 : am_look 193 14 = some (.ifCond .eq 8, 17, 22, 0, 0) := by decide +kernel
theorem q193_17 : am_look 193 17 = some (.iload_n 3, 18, 3, 0, 0) := by decide +kernel
theorem q193_18 : am_look 193 18 = some (.iconst (-1), 19, 0, 0, (-1)) := by decide +kernel
theorem q193_19 : am_look 193 19 = some (.if_icmp .ge 10, 22, 29, 0, 0) := by decide +kernel
theorem q193_22 : am_look 193 22 = some (.aload_n 0, 23, 0, 0, 0) := by decide +kernel
theorem q193_23 : am_look 193 23 = some (.ldc 95, 25, 0, 0, (-100001)) := by decide +kernel
theorem q193_25 : am_look 193 25 = some (.invokevirtual 91, 28, 74, 2, 12) := by decide +kernel
theorem q193_28 : am_look 193 28 = some (.ireturn, 29, 0, 0, 0) := by decide +kernel
theorem q193_29 : am_look 193 29 = some (.aload_n 0, 30, 0, 0, 0) := by decide +kernel
theorem q193_30 : am_look 193 30 = some (.iload_n 1, 31, 1, 0, 0) := by decide +kernel
theorem q193_31 : am_look 193 31 = some (.iload_n 2, 32, 2, 0, 0) := by decide +kernel
theorem q193_32 : am_look 193 32 = some (.invokevirtual 171, 35, 169, 3, 12) := by decide +kernel
theorem q193_35 : am_look 193 35 = some (.iload_n 3, 36, 3, 0, 0) := by decide +kernel
theorem q193_36 : am_look 193 36 = some (.ifCond .ge 10, 39, 46, 0, 0) := by decide +kernel
theorem q193_39 : am_look 193 39 = some (.aload_n 0, 40, 0, 0, 0) := by decide +kernel
theorem q193_40 : am_look 193 40 = some (.getfield 164, 43, 784, 16, 0) := by decide +kernel
theorem q193_43 : am_look 193 43 = some (.goto 26, 46, 69, 0, 0) := by decide +kernel
theorem q193_46 : am_look 193 46 = some (.iload_n 3, 47, 3, 0, 0) := by decide +kernel
theorem q193_47 : am_look 193 47 = some (.aload_n 0, 48, 0, 0, 0) := by decide +kernel
theorem q193_48 : am_look 193 48 = some (.getfield 164, 51, 784, 16, 0) := by decide +kernel
theorem q193_51 : am_look 193 51 = some (.if_icmp .ge 12, 54, 63, 0, 0) := by decide +kernel
theorem q193_54 : am_look 193 54 = some (.aload_n 0, 55, 0, 0, 0) := by decide +kernel
theorem q193_55 : am_look 193 55 = some (.getfield 40, 58, 780, 12, 0) := by decide +kernel
theorem q193_58 : am_look 193 58 = some (.iload_n 3, 59, 3, 0, 0) := by decide +kernel
theorem q193_59 : am_look 193 59 = some (.iaload, 60, 0, 0, 0) := by decide +kernel
theorem q193_60 : am_look 193 60 = some (.goto 9, 63, 69, 0, 0) := by decide +kernel
theorem q193_63 : am_look 193 63 = some (.aload_n 0, 64, 0, 0, 0) := by decide +kernel
theorem q193_64 : am_look 193 64 = some (.ldc 95, 66, 0, 0, (-100001)) := by decide +kernel
theorem q193_66 : am_look 193 66 = some (.invokevirtual 91, 69, 74, 2, 12) := by decide +kernel
theorem q193_69 : am_look 193 69 = some (.ireturn, 70, 0, 0, 0) := by decide +kernel
theorem zb193 : am_zb 193 = false := by decide +kernel
theorem ml193 : am_ml 193 = 4 := by decide +kernel
theorem np193 : am_np 193 + (if am_sc 193 then 0 else 1) = 4 := by decide +kernel
theorem st193 {d : Nat} {h h1 : am_H} {r : Option am_V} (p0 : Nat) (a1 : Int) (a2 : Int) (a3 : Int) (H : am_x (am_cd d) 193 (fun r2 h2 => r2 = r ∧ h2 = h1) 0 0 [some (.inr (.inr p0)), some (.inl a1), some (.inl a2), some (.inl a3)] [] h) : am_cd (d + 1) 193 [.inr (.inr p0), .inl a1, .inl a2, .inl a3] h r h1 := by
  refine ⟨⟨by rw [ml193]; simp [am_en], by rw [np193]; rfl⟩, ?_⟩
  rw [ml193]; exact H
theorem q194_0 : am_look 194 0 = some (.aload_n 0, 1, 0, 0, 0) := by decide +kernel
theorem q194_1 : am_look 194 1 = some (.iload_n 1, 2, 1, 0, 0) := by decide +kernel
theorem q194_2 : am_look 194 2 = some (.invokevirtual 100, 5, 114, 2, 12) := by decide +kernel
theorem q194_5 : am_look 194 5 = some (.ifCond .eq 18, 8, 23, 0, 0) := by decide +kernel
theorem q194_8 : am_look 194 8 = some (.iload_n 2, 9, 2, 0, 0) := by decide +kernel
theorem q194_9 : am_look 194 9 = some (.invokestatic 134, 12, 116, 1, 99) := by decide +kernel
theorem q194_12 : am_look 194 12 = some (.ifCond .eq 11, 15, 23, 0, 0) := by decide +kernel
theorem q194_15 : am_look 194 15 = some (.aload_n 0, 16, 0, 0, 0) := by decide +kernel
theorem q194_16 : am_look 194 16 = some (.iload_n 3, 17, 3, 0, 0) := by decide +kernel
theorem q194_17 : am_look 194 17 = some (.invokevirtual 128, 20, 115, 2, 12) := by decide +kernel
theorem q194_20 : am_look 194 20 = some (.ifCond .ne 10, 23, 30, 0, 0) := by decide +kernel
theorem q194_23 : am_look 194 23 = some (.aload_n 0, 24, 0, 0, 0) := by decide +kernel
theorem q194_24 : am_look 194 24 = some (.ldc 95, 26, 0, 0, (-100001)) := by decide +kernel
theorem q194_26 : am_look 194 26 = some (.invokevirtual 91, 29, 74, 2, 12) := by decide +kernel
theorem q194_29 : am_look 194 29 = some (.ireturn, 30, 0, 0, 0) := by decide +kernel
theorem q194_30 : am_look 194 30 = some (.aload_n 0, 31, 0, 0, 0) := by decide +kernel
theorem q194_31 : am_look 194 31 = some (.aload_n 0, 32, 0, 0, 0) := by decide +kernel
theorem q194_32 : am_look 194 32 = some (.getfield 7, 35, 768, 0, 0) := by decide +kernel
theorem q194_35 : am_look 194 35 = some (.iconst 4, 36, 0, 0, 4) := by decide +kernel
theorem q194_36 : am_look 194 36 = some (.iaload, 37, 0, 0, 0) := by decide +kernel
theorem q194_37 : am_look 194 37 = some (.invokevirtual 145, 40, 167, 2, 12) := by decide +kernel
theorem q194_40 : am_look 194 40 = some (.aload_n 0, 41, 0, 0, 0) := by decide +kernel
theorem q194_41 : am_look 194 41 = some (.getfield 25, 44, 775, 7, 0) := by decide +kernel
theorem q194_44 : am_look 194 44 = some (.bipush 6, 46, 0, 0, 6) := by decide +kernel
theorem q194_46 : am_look 194 46 = some (.iload_n 1, 47, 1, 0, 0) := by decide +kernel
theorem q194_47 : am_look 194 47 = some (.imul, 48, 0, 0, 0) := by decide +kernel
theorem q194_48 : am_look 194 48 = some (.iload_n 2, 49, 2, 0, 0) := by decide +kernel
theorem q194_49 : am_look 194 49 = some (.iadd, 50, 0, 0, 0) := by decide +kernel
theorem q194_50 : am_look 194 50 = some (.iaload, 51, 0, 0, 0) := by decide +kernel
theorem q194_51 : am_look 194 51 = some (.istore 4, 53, 4, 0, 0) := by decide +kernel
theorem q194_53 : am_look 194 53 = some (.iload 4, 55, 4, 0, 0) := by decide +kernel
theorem q194_55 : am_look 194 55 = some (.ifCond .ge 10, 58, 65, 0, 0) := by decide +kernel
theorem q194_58 : am_look 194 58 = some (.aload_n 0, 59, 0, 0, 0) := by decide +kernel
theorem q194_59 : am_look 194 59 = some (.ldc 175, 61, 0, 0, (-100002)) := by decide +kernel
theorem q194_61 : am_look 194 61 = some (.invokevirtual 91, 64, 74, 2, 12) := by decide +kernel
theorem q194_64 : am_look 194 64 = some (.ireturn, 65, 0, 0, 0) := by decide +kernel
theorem q194_65 : am_look 194 65 = some (.iconst 0, 66, 0, 0, 0) := by decide +kernel
theorem q194_66 : am_look 194 66 = some (.istore 5, 68, 5, 0, 0) := by decide +kernel
theorem q194_68 : am_look 194 68 = some (.iload 5, 70, 5, 0, 0) := by decide +kernel
theorem q194_70 : am_look 194 70 = some (.iconst 4, 71, 0, 0, 4) := by decide +kernel
theorem q194_71 : am_look 194 71 = some (.if_icmp .ge 28, 74, 99, 0, 0) := by decide +kernel
theorem q194_74 : am_look 194 74 = some (.aload_n 0, 75, 0, 0, 0) := by decide +kernel
theorem q194_75 : am_look 194 75 = some (.iload_n 3, 76, 3, 0, 0) := by decide +kernel
theorem q194_76 : am_look 194 76 = some (.iload 5, 78, 5, 0, 0) := by decide +kernel
theorem q194_78 : am_look 194 78 = some (.invokevirtual 171, 81, 169, 3, 12) := by decide +kernel
theorem q194_81 : am_look 194 81 = some (.aload_n 0, 82, 0, 0, 0) := by decide +kernel
theorem q194_82 : am_look 194 82 = some (.iload 4, 84, 4, 0, 0) := by decide +kernel
theorem q194_84 : am_look 194 84 = some (.invokevirtual 176, 87, 132, 2, 12) := by decide +kernel
theorem q194_87 : am_look 194 87 = some (.ifCond .eq 6, 90, 93, 0, 0) := by decide +kernel
theorem q194_90 : am_look 194 90 = some (.iload 5, 92, 5, 0, 0) := by decide +kernel
theorem q194_92 : am_look 194 92 = some (.ireturn, 93, 0, 0, 0) := by decide +kernel
theorem q194_93 : am_look 194 93 = some (.iinc 5 1, 96, 5, 0, 1) := by decide +kernel
theorem q194_96 : am_look 194 96 = some (.goto (-28), 99, 68, 0, 0) := by decide +kernel
theorem q194_99 : am_look 194 99 = some (.aload_n 0, 100, 0, 0, 0) := by decide +kernel
theorem q194_100 : am_look 194 100 = some (.ldc 90, 102, 0, 0, (-100006)) := by decide +kernel
theorem q194_102 : am_look 194 102 = some (.invokevirtual 91, 105, 74, 2, 12) := by decide +kernel
theorem q194_105 : am_look 194 105 = some (.ireturn, 106, 0, 0, 0) := by decide +kernel
theorem zb194 : am_zb 194 = false := by decide +kernel
theorem ml194 : am_ml 194 = 6 := by decide +kernel
theorem np194 : am_np 194 + (if am_sc 194 then 0 else 1) = 4 := by decide +kernel
theorem st194 {d : Nat} {h h1 : am_H} {r : Option am_V} (p0 : Nat) (a1 : Int) (a2 : Int) (a3 : Int) (H : am_x (am_cd d) 194 (fun r2 h2 => r2 = r ∧ h2 = h1) 0 0 [some (.inr (.inr p0)), some (.inl a1), some (.inl a2), some (.inl a3), none, none] [] h) : am_cd (d + 1) 194 [.inr (.inr p0), .inl a1, .inl a2, .inl a3] h r h1 := by
  refine ⟨⟨by rw [ml194]; simp [am_en], by rw [np194]; rfl⟩, ?_⟩
  rw [ml194]; exact H
theorem q195_0 : am_look 195 0 = some (.iload_n 1, 1, 1, 0, 0) := by decide +kernel
theorem q195_1 : am_look 195 1 = some (.iconst 0, 2, 0, 0, 0) := by decide +kernel
theorem q195_2 : am_look 195 2 = some (.iconst 3, 3, 0, 0, 3) := by decide +kernel
theorem q195_3 : am_look 195 3 = some (.invokestatic 83, 6, 73, 3, 99) := by decide +kernel
theorem q195_6 : am_look 195 6 = some (.ifCond .eq 18, 9, 24, 0, 0) := by decide +kernel
theorem q195_9 : am_look 195 9 = some (.iload_n 2, 10, 2, 0, 0) := by decide +kernel
theorem q195_10 : am_look 195 10 = some (.invokestatic 134, 13, 116, 1, 99) := by decide +kernel
theorem q195_13 : am_look 195 13 = some (.ifCond .eq 11, 16, 24, 0, 0) := by decide +kernel
theorem q195_16 : am_look 195 16 = some (.aload_n 0, 17, 0, 0, 0) := by decide +kernel
theorem q195_17 : am_look 195 17 = some (.iload_n 3, 18, 3, 0, 0) := by decide +kernel
theorem q195_18 : am_look 195 18 = some (.invokevirtual 128, 21, 115, 2, 12) := by decide +kernel
theorem q195_21 : am_look 195 21 = some (.ifCond .ne 10, 24, 31, 0, 0) := by decide +kernel
theorem q195_24 : am_look 195 24 = some (.aload_n 0, 25, 0, 0, 0) := by decide +kernel
theorem q195_25 : am_look 195 25 = some (.ldc 95, 27, 0, 0, (-100001)) := by decide +kernel
theorem q195_27 : am_look 195 27 = some (.invokevirtual 91, 30, 74, 2, 12) := by decide +kernel
theorem q195_30 : am_look 195 30 = some (.ireturn, 31, 0, 0, 0) := by decide +kernel
theorem q195_31 : am_look 195 31 = some (.aload_n 0, 32, 0, 0, 0) := by decide +kernel
theorem q195_32 : am_look 195 32 = some (.aload_n 0, 33, 0, 0, 0) := by decide +kernel
theorem q195_33 : am_look 195 33 = some (.getfield 7, 36, 768, 0, 0) := by decide +kernel
theorem q195_36 : am_look 195 36 = some (.iconst 4, 37, 0, 0, 4) := by decide +kernel
theorem q195_37 : am_look 195 37 = some (.iaload, 38, 0, 0, 0) := by decide +kernel
theorem q195_38 : am_look 195 38 = some (.invokevirtual 145, 41, 167, 2, 12) := by decide +kernel
theorem q195_41 : am_look 195 41 = some (.aload_n 0, 42, 0, 0, 0) := by decide +kernel
theorem q195_42 : am_look 195 42 = some (.iload_n 3, 43, 3, 0, 0) := by decide +kernel
theorem q195_43 : am_look 195 43 = some (.iload_n 1, 44, 1, 0, 0) := by decide +kernel
theorem q195_44 : am_look 195 44 = some (.invokevirtual 171, 47, 169, 3, 12) := by decide +kernel
theorem q195_47 : am_look 195 47 = some (.iconst 0, 48, 0, 0, 0) := by decide +kernel
theorem q195_48 : am_look 195 48 = some (.istore 4, 50, 4, 0, 0) := by decide +kernel
theorem q195_50 : am_look 195 50 = some (.iconst 0, 51, 0, 0, 0) := by decide +kernel
theorem q195_51 : am_look 195 51 = some (.istore 5, 53, 5, 0, 0) := by decide +kernel
theorem q195_53 : am_look 195 53 = some (.iload 5, 55, 5, 0, 0) := by decide +kernel
theorem q195_55 : am_look 195 55 = some (.aload_n 0, 56, 0, 0, 0) := by decide +kernel
theorem q195_56 : am_look 195 56 = some (.getfield 7, 59, 768, 0, 0) := by decide +kernel
theorem q195_59 : am_look 195 59 = some (.iconst 0, 60, 0, 0, 0) := by decide +kernel
theorem q195_60 : am_look 195 60 = some (.iaload, 61, 0, 0, 0) := by decide +kernel
theorem q195_61 : am_look 195 61 = some (.if_icmp .ge 38, 64, 99, 0, 0) := by decide +kernel
theorem q195_64 : am_look 195 64 = some (.iload 4, 66, 4, 0, 0) := by decide +kernel
theorem q195_66 : am_look 195 66 = some (.aload_n 0, 67, 0, 0, 0) := by decide +kernel
theorem q195_67 : am_look 195 67 = some (.aload_n 0, 68, 0, 0, 0) := by decide +kernel
theorem q195_68 : am_look 195 68 = some (.getfield 25, 71, 775, 7, 0) := by decide +kernel
theorem q195_71 : am_look 195 71 = some (.bipush 6, 73, 0, 0, 6) := by decide +kernel
theorem q195_73 : am_look 195 73 = some (.iload 5, 75, 5, 0, 0) := by decide +kernel
theorem q195_75 : am_look 195 75 = some (.imul, 76, 0, 0, 0) := by decide +kernel
theorem q195_76 : am_look 195 76 = some (.iload_n 2, 77, 2, 0, 0) := by decide +kernel
theorem q195_77 : am_look 195 77 = some (.iadd, 78, 0, 0, 0) := by decide +kernel
theorem q195_78 : am_look 195 78 = some (.iaload, 79, 0, 0, 0) := by decide +kernel
theorem q195_79 : am_look 195 79 = some (.invokevirtual 176, 82, 132, 2, 12) := by decide +kernel
theorem q195_82 : am_look 195 82 = some (.ifCond .eq 7, 85, 89, 0, 0) := by decide +kernel
theorem q195_85 : am_look 195 85 = some (.iconst 1, 86, 0, 0, 1) := by decide +kernel
theorem q195_86 : am_look 195 86 = some (.goto 4, 89, 90, 0, 0) := by decide +kernel
theorem q195_89 : am_look 195 89 = some (.iconst 0, 90, 0, 0, 0) := by decide +kernel
theorem q195_90 : am_look 195 90 = some (.iadd, 91, 0, 0, 0) := by decide +kernel
theorem q195_91 : am_look 195 91 = some (.istore 4, 93, 4, 0, 0) := by decide +kernel
theorem q195_93 : am_look 195 93 = some (.iinc 5 1, 96, 5, 0, 1) := by decide +kernel
theorem q195_96 : am_look 195 96 = some (.goto (-43), 99, 53, 0, 0) := by decide +kernel
theorem q195_99 : am_look 195 99 = some (.iload 4, 101, 4, 0, 0) := by decide +kernel
theorem q195_101 : am_look 195 101 = some (.ireturn, 102, 0, 0, 0) := by decide +kernel
theorem zb195 : am_zb 195 = false := by decide +kernel
theorem ml195 : am_ml 195 = 6 := by decide +kernel
theorem np195 : am_np 195 + (if am_sc 195 then 0 else 1) = 4 := by decide +kernel
theorem st195 {d : Nat} {h h1 : am_H} {r : Option am_V} (p0 : Nat) (a1 : Int) (a2 : Int) (a3 : Int) (H : am_x (am_cd d) 195 (fun r2 h2 => r2 = r ∧ h2 = h1) 0 0 [some (.inr (.inr p0)), some (.inl a1), some (.inl a2), some (.inl a3), none, none] [] h) : am_cd (d + 1) 195 [.inr (.inr p0), .inl a1, .inl a2, .inl a3] h r h1 := by
  refine ⟨⟨by rw [ml195]; simp [am_en], by rw [np195]; rfl⟩, ?_⟩
  rw [ml195]; exact H
theorem q196_0 : am_look 196 0 = some (.iload_n 1, 1, 1, 0, 0) := by decide +kernel
theorem q196_1 : am_look 196 1 = some (.invokestatic 134, 4, 116, 1, 99) := by decide +kernel
theorem q196_4 : am_look 196 4 = some (.ifCond .eq 29, 7, 33, 0, 0) := by decide +kernel
theorem q196_7 : am_look 196 7 = some (.aload_n 0, 8, 0, 0, 0) := by decide +kernel
theorem q196_8 : am_look 196 8 = some (.iload_n 2, 9, 2, 0, 0) := by decide +kernel
theorem q196_9 : am_look 196 9 = some (.invokevirtual 128, 12, 115, 2, 12) := by decide +kernel
theorem q196_12 : am_look 196 12 = some (.ifCond .eq 21, 15, 33, 0, 0) := by decide +kernel
theorem q196_15 : am_look 196 15 = some (.aload_n 0, 16, 0, 0, 0) := by decide +kernel
theorem q196_16 : am_look 196 16 = some (.iload_n 3, 17, 3, 0, 0) := by decide +kernel
theorem q196_17 : am_look 196 17 = some (.invokevirtual 128, 20, 115, 2, 12) := by decide +kernel
theorem q196_20 : am_look 196 20 = some (.ifCond .eq 13, 23, 33, 0, 0) := by decide +kernel
theorem q196_23 : am_look 196 23 = some (.iload 4, 25, 4, 0, 0) := by decide +kernel
theorem q196_25 : am_look 196 25 = some (.iconst 0, 26, 0, 0, 0) := by decide +kernel
theorem q196_26 : am_look 196 26 = some (.iconst 3, 27, 0, 0, 3) := by decide +kernel
theorem q196_27 : am_look 196 27 = some (.invokestatic 83, 30, 73, 3, 99) := by decide +kernel
theorem q196_30 : am_look 196 30 = some (.ifCond .ne 10, 33, 40, 0, 0) := by decide +kernel
theorem q196_33 : am_look 196 33 = some (.aload_n 0, 34, 0, 0, 0) := by decide +kernel
theorem q196_34 : am_look 196 34 = some (.ldc 95, 36, 0, 0, (-100001)) := by decide +kernel
theorem q196_36 : am_look 196 36 = some (.invokevirtual 91, 39, 74, 2, 12) := by decide +kernel
theorem q196_39 : am_look 196 39 = some (.ireturn, 40, 0, 0, 0) := by decide +kernel
theorem q196_40 : am_look 196 40 = some (.iload_n 2, 41, 2, 0, 0) := by decide +kernel
theorem q196_41 : am_look 196 41 = some (.iload_n 3, 42, 3, 0, 0) := by decide +kernel
theorem q196_42 : am_look 196 42 = some (.if_icmp .ne 10, 45, 52, 0, 0) := by decide +kernel
theorem q196_45 : am_look 196 45 = some (.aload_n 0, 46, 0, 0, 0) := by decide +kernel
theorem q196_46 : am_look 196 46 = some (.ldc 104, 48, 0, 0, (-100003)) := by decide +kernel
theorem q196_48 : am_look 196 48 = some (.invokevirtual 91, 51, 74, 2, 12) := by decide +kernel
theorem q196_51 : am_look 196 51 = some (.ireturn, 52, 0, 0, 0) := by decide +kernel
theorem q196_52 : am_look 196 52 = some (.aload_n 0, 53, 0, 0, 0) := by decide +kernel
theorem q196_53 : am_look 196 53 = some (.aload_n 0, 54, 0, 0, 0) := by decide +kernel
theorem q196_54 : am_look 196 54 = some (.getfield 7, 57, 768, 0, 0) := by decide +kernel
theorem q196_57 : am_look 196 57 = some (.iconst 4, 58, 0, 0, 4) := by decide +kernel
theorem q196_58 : am_look 196 58 = some (.iaload, 59, 0, 0, 0) := by decide +kernel
theorem q196_59 : am_look 196 59 = some (.invokevirtual 145, 62, 167, 2, 12) := by decide +kernel
theorem q196_62 : am_look 196 62 = some (.iconst 4, 63, 0, 0, 4) := by decide +kernel
theorem q196_63 : am_look 196 63 = some (.newarray .int, 65, 0, 0, 0) := by decide +kernel
theorem q196_65 : am_look 196 65 = some (.astore 5, 67, 5, 0, 0) := by decide +kernel
theorem q196_67 : am_look 196 67 = some (.aload 5, 69, 5, 0, 0) := by decide +kernel
theorem q196_69 : am_look 196 69 = some (.iconst 0, 70, 0, 0, 0) := by decide +kernel
theorem q196_70 : am_look 196 70 = some (.iconst (-1), 71, 0, 0, (-1)) := by decide +kernel
theorem q196_71 : am_look 196 71 = some (.iastore, 72, 0, 0, 0) := by decide +kernel
theorem q196_72 : am_look 196 72 = some (.iconst 0, 73, 0, 0, 0) := by decide +kernel
theorem q196_73 : am_look 196 73 = some (.istore 6, 75, 6, 0, 0) := by decide +kernel
theorem q196_75 : am_look 196 75 = some (.iload 6, 77, 6, 0, 0) := by decide +kernel
theorem q196_77 : am_look 196 77 = some (.bipush 8, 79, 0, 0, 8) := by decide +kernel
theorem q196_79 : am_look 196 79 = some (.if_icmp .ge 101, 82, 180, 0, 0) := by decide +kernel
theorem q196_82 : am_look 196 82 = some (.sipush (-200), 85, 0, 0, (-200)) := by decide +kernel
theorem q196_85 : am_look 196 85 = some (.istore 7, 87, 7, 0, 0) := by decide +kernel
theorem q196_87 : am_look 196 87 = some (.iload 7, 89, 7, 0, 0) := by decide +kernel
theorem q196_89 : am_look 196 89 = some (.sipush 300, 92, 0, 0, 300) := by decide +kernel
theorem q196_92 : am_look 196 92 = some (.if_icmp .gt 82, 95, 174, 0, 0) := by decide +kernel
theorem q196_95 : am_look 196 95 = some (.iconst 0, 96, 0, 0, 0) := by decide +kernel
theorem q196_96 : am_look 196 96 = some (.istore 8, 98, 8, 0, 0) := by decide +kernel
theorem q196_98 : am_look 196 98 = some (.iload 8, 100, 8, 0, 0) := by decide +kernel
theorem q196_100 : am_look 196 100 = some (.iconst 2, 101, 0, 0, 2) := by decide +kernel
theorem q196_101 : am_look 196 101 = some (.if_icmp .ge 67, 104, 168, 0, 0) := by decide +kernel
theorem q196_104 : am_look 196 104 = some (.aload_n 0, 105, 0, 0, 0) := by decide +kernel
theorem q196_105 : am_look 196 105 = some (.iload_n 1, 106, 1, 0, 0) := by decide +kernel
theorem q196_106 : am_look 196 106 = some (.iload_n 2, 107, 2, 0, 0) := by decide +kernel
theorem q196_107 : am_look 196 107 = some (.iload_n 3, 108, 3, 0, 0) := by decide +kernel
theorem q196_108 : am_look 196 108 = some (.iload 6, 110, 6, 0, 0) := by decide +kernel
theorem q196_110 : am_look 196 110 = some (.iload 7, 112, 7, 0, 0) := by decide +kernel
theorem q196_112 : am_look 196 112 = some (.iload 8, 114, 8, 0, 0) := by decide +kernel
theorem q196_114 : am_look 196 114 = some (.invokevirtual 185, 117, 133, 7, 12) := by decide +kernel
theorem q196_117 : am_look 196 117 = some (.istore 9, 119, 9, 0, 0) := by decide +kernel
theorem q196_119 : am_look 196 119 = some (.aload 5, 121, 5, 0, 0) := by decide +kernel
theorem q196_121 : am_look 196 121 = some (.iconst 0, 122, 0, 0, 0) := by decide +kernel
theorem q196_122 : am_look 196 122 = some (.iaload, 123, 0, 0, 0) := by decide +kernel
theorem q196_123 : am_look 196 123 = some (.ifCond .lt 15, 126, 138, 0, 0) := by decide +kernel
theorem q196_126 : am_look 196 126 = some (.iload 9, 128, 9, 0, 0) := by decide +kernel
theorem q196_128 : am_look 196 128 = some (.aload 5, 130, 5, 0, 0) := by decide +kernel
theorem q196_130 : am_look 196 130 = some (.iconst 0, 131, 0, 0, 0) := by decide +kernel
theorem q196_131 : am_look 196 131 = some (.iaload, 132, 0, 0, 0) := by decide +kernel
theorem q196_132 : am_look 196 132 = some (.if_icmp .lt 6, 135, 138, 0, 0) := by decide +kernel
theorem q196_135 : am_look 196 135 = some (.goto 27, 138, 162, 0, 0) := by decide +kernel
theorem q196_138 : am_look 196 138 = some (.aload 5, 140, 5, 0, 0) := by decide +kernel
theorem q196_140 : am_look 196 140 = some (.iconst 0, 141, 0, 0, 0) := by decide +kernel
theorem q196_141 : am_look 196 141 = some (.iload 9, 143, 9, 0, 0) := by decide +kernel
theorem q196_143 : am_look 196 143 = some (.iastore, 144, 0, 0, 0) := by decide +kernel
theorem q196_144 : am_look 196 144 = some (.aload 5, 146, 5, 0, 0) := by decide +kernel
theorem q196_146 : am_look 196 146 = some (.iconst 1, 147, 0, 0, 1) := by decide +kernel
theorem q196_147 : am_look 196 147 = some (.iload 6, 149, 6, 0, 0) := by decide +kernel
theorem q196_149 : am_look 196 149 = some (.iastore, 150, 0, 0, 0) := by decide +kernel
theorem q196_150 : am_look 196 150 = some (.aload 5, 152, 5, 0, 0) := by decide +kernel
theorem q196_152 : am_look 196 152 = some (.iconst 2, 153, 0, 0, 2) := by decide +kernel
theorem q196_153 : am_look 196 153 = some (.iload 7, 155, 7, 0, 0) := by decide +kernel
theorem q196_155 : am_look 196 155 = some (.iastore, 156, 0, 0, 0) := by decide +kernel
theorem q196_156 : am_look 196 156 = some (.aload 5, 158, 5, 0, 0) := by decide +kernel
theorem q196_158 : am_look 196 158 = some (.iconst 3, 159, 0, 0, 3) := by decide +kernel
theorem q196_159 : am_look 196 159 = some (.iload 8, 161, 8, 0, 0) := by decide +kernel
theorem q196_161 : am_look 196 161 = some (.iastore, 162, 0, 0, 0) := by decide +kernel
theorem q196_162 : am_look 196 162 = some (.iinc 8 1, 165, 8, 0, 1) := by decide +kernel
theorem q196_165 : am_look 196 165 = some (.goto (-67), 168, 98, 0, 0) := by decide +kernel
theorem q196_168 : am_look 196 168 = some (.iinc 7 1, 171, 7, 0, 1) := by decide +kernel
theorem q196_171 : am_look 196 171 = some (.goto (-84), 174, 87, 0, 0) := by decide +kernel
theorem q196_174 : am_look 196 174 = some (.iinc 6 1, 177, 6, 0, 1) := by decide +kernel
theorem q196_177 : am_look 196 177 = some (.goto (-102), 180, 75, 0, 0) := by decide +kernel
theorem q196_180 : am_look 196 180 = some (.aload 5, 182, 5, 0, 0) := by decide +kernel
theorem q196_182 : am_look 196 182 = some (.iload 4, 184, 4, 0, 0) := by decide +kernel
theorem q196_184 : am_look 196 184 = some (.iaload, 185, 0, 0, 0) := by decide +kernel
theorem q196_185 : am_look 196 185 = some (.ireturn, 186, 0, 0, 0) := by decide +kernel
theorem zb196 : am_zb 196 = false := by decide +kernel
theorem ml196 : am_ml 196 = 10 := by decide +kernel
theorem np196 : am_np 196 + (if am_sc 196 then 0 else 1) = 5 := by decide +kernel
theorem st196 {d : Nat} {h h1 : am_H} {r : Option am_V} (p0 : Nat) (a1 : Int) (a2 : Int) (a3 : Int) (a4 : Int) (H : am_x (am_cd d) 196 (fun r2 h2 => r2 = r ∧ h2 = h1) 1 0 [some (.inr (.inr p0)), some (.inl a1), some (.inl a2), some (.inl a3), some (.inl a4), none, none, none, none, none] [] h) : am_cd (d + 1) 196 [.inr (.inr p0), .inl a1, .inl a2, .inl a3, .inl a4] h r h1 := by
  refine ⟨⟨by rw [ml196]; simp [am_en], by rw [np196]; rfl⟩, ?_⟩
  rw [ml196]; exact H
theorem q197_0 : am_look 197 0 = some (.aload_n 0, 1, 0, 0, 0) := by decide +kernel
theorem q197_1 : am_look 197 1 = some (.iload_n 1, 2, 1, 0, 0) := by decide +kernel
theorem q197_2 : am_look 197 2 = some (.invokevirtual 145, 5, 167, 2, 12) := by decide +kernel
theorem q197_5 : am_look 197 5 = some (.iconst 0, 6, 0, 0, 0) := by decide +kernel
theorem q197_6 : am_look 197 6 = some (.istore_n 2, 7, 2, 0, 0) := by decide +kernel
theorem q197_7 : am_look 197 7 = some (.iload_n 2, 8, 2, 0, 0) := by decide +kernel
theorem q197_8 : am_look 197 8 = some (.aload_n 0, 9, 0, 0, 0) := by decide +kernel
theorem q197_9 : am_look 197 9 = some (.getfield 7, 12, 768, 0, 0) := by decide +kernel
theorem q197_12 : am_look 197 12 = some (.iconst 2, 13, 0, 0, 2) := by decide +kernel
theorem q197_13 : am_look 197 13 = some (.iaload, 14, 0, 0, 0) := by decide +kernel
theorem q197_14 : am_look 197 14 = some (.if_icmp .ge 44, 17, 58, 0, 0) := by decide +kernel
theorem q197_17 : am_look 197 17 = some (.iconst 0, 18, 0, 0, 0) := by decide +kernel
theorem q197_18 : am_look 197 18 = some (.istore_n 3, 19, 3, 0, 0) := by decide +kernel
theorem q197_19 : am_look 197 19 = some (.iload_n 3, 20, 3, 0, 0) := by decide +kernel
theorem q197_20 : am_look 197 20 = some (.aload_n 0, 21, 0, 0, 0) := by decide +kernel
theorem q197_21 : am_look 197 21 = some (.getfield 7, 24, 768, 0, 0) := by decide +kernel
theorem q197_24 : am_look 197 24 = some (.iconst 2, 25, 0, 0, 2) := by decide +kernel
theorem q197_25 : am_look 197 25 = some (.iaload, 26, 0, 0, 0) := by decide +kernel
theorem q197_26 : am_look 197 26 = some (.if_icmp .ge 26, 29, 52, 0, 0) := by decide +kernel
theorem q197_29 : am_look 197 29 = some (.aload_n 0, 30, 0, 0, 0) := by decide +kernel
theorem q197_30 : am_look 197 30 = some (.getfield 49, 33, 786, 18, 0) := by decide +kernel
theorem q197_33 : am_look 197 33 = some (.bipush 30, 35, 0, 0, 30) := by decide +kernel
theorem q197_35 : am_look 197 35 = some (.iload_n 2, 36, 2, 0, 0) := by decide +kernel
theorem q197_36 : am_look 197 36 = some (.imul, 37, 0, 0, 0) := by decide +kernel
theorem q197_37 : am_look 197 37 = some (.iload_n 3, 38, 3, 0, 0) := by decide +kernel
theorem q197_38 : am_look 197 38 = some (.iadd, 39, 0, 0, 0) := by decide +kernel
theorem q197_39 : am_look 197 39 = some (.aload_n 0, 40, 0, 0, 0) := by decide +kernel
theorem q197_40 : am_look 197 40 = some (.iload_n 2, 41, 2, 0, 0) := by decide +kernel
theorem q197_41 : am_look 197 41 = some (.iload_n 3, 42, 3, 0, 0) := by decide +kernel
theorem q197_42 : am_look 197 42 = some (.invokevirtual 131, 45, 124, 3, 12) := by decide +kernel
theorem q197_45 : am_look 197 45 = some (.iastore, 46, 0, 0, 0) := by decide +kernel
theorem q197_46 : am_look 197 46 = some (.iinc 3 1, 49, 3, 0, 1) := by decide +kernel
theorem q197_49 : am_look 197 49 = some (.goto (-30), 52, 19, 0, 0) := by decide +kernel
theorem q197_52 : am_look 197 52 = some (.iinc 2 1, 55, 2, 0, 1) := by decide +kernel
theorem q197_55 : am_look 197 55 = some (.goto (-48), 58, 7, 0, 0) := by decide +kernel
theorem q197_58 : am_look 197 58 = some (.iconst 0, 59, 0, 0, 0) := by decide +kernel
theorem q197_59 : am_look 197 59 = some (.istore_n 2, 60, 2, 0, 0) := by decide +kernel
theorem q197_60 : am_look 197 60 = some (.iload_n 2, 61, 2, 0, 0) := by decide +kernel
theorem q197_61 : am_look 197 61 = some (.aload_n 0, 62, 0, 0, 0) := by decide +kernel
theorem q197_62 : am_look 197 62 = some (.getfield 7, 65, 768, 0, 0) := by decide +kernel
theorem q197_65 : am_look 197 65 = some (.iconst 0, 66, 0, 0, 0) := by decide +kernel
theorem q197_66 : am_look 197 66 = some (.iaload, 67, 0, 0, 0) := by decide +kernel
theorem q197_67 : am_look 197 67 = some (.if_icmp .ge 119, 70, 186, 0, 0) := by decide +kernel
theorem q197_70 : am_look 197 70 = some (.iconst 0, 71, 0, 0, 0) := by decide +kernel
theorem q197_71 : am_look 197 71 = some (.istore_n 3, 72, 3, 0, 0) := by decide +kernel
theorem q197_72 : am_look 197 72 = some (.iload_n 3, 73, 3, 0, 0) := by decide +kernel
theorem q197_73 : am_look 197 73 = some (.aload_n 0, 74, 0, 0, 0) := by decide +kernel
theorem q197_74 : am_look 197 74 = some (.getfield 7, 77, 768, 0, 0) := by decide +kernel
theorem q197_77 : am_look 197 77 = some (.iconst 0, 78, 0, 0, 0) := by decide +kernel
theorem q197_78 : am_look 197 78 = some (.iaload, 79, 0, 0, 0) := by decide +kernel
theorem q197_79 : am_look 197 79 = some (.if_icmp .ge 101, 82, 180, 0, 0) := by decide +kernel
theorem q197_82 : am_look 197 82 = some (.iconst 0, 83, 0, 0, 0) := by decide +kernel
theorem q197_83 : am_look 197 83 = some (.istore 4, 85, 4, 0, 0) := by decide +kernel
theorem q197_85 : am_look 197 85 = some (.iconst 0, 86, 0, 0, 0) := by decide +kernel
theorem q197_86 : am_look 197 86 = some (.istore 5, 88, 5, 0, 0) := by decide +kernel
theorem q197_88 : am_look 197 88 = some (.iload 5, 90, 5, 0, 0) := by decide +kernel
theorem q197_90 : am_look 197 90 = some (.bipush 6, 92, 0, 0, 6) := by decide +kernel
theorem q197_92 : am_look 197 92 = some (.if_icmp .ge 69, 95, 161, 0, 0) := by decide +kernel
theorem q197_95 : am_look 197 95 = some (.aload_n 0, 96, 0, 0, 0) := by decide +kernel
theorem q197_96 : am_look 197 96 = some (.getfield 25, 99, 775, 7, 0) := by decide +kernel
theorem q197_99 : am_look 197 99 = some (.bipush 6, 101, 0, 0, 6) := by decide +kernel
theorem q197_101 : am_look 197 101 = some (.iload_n 2, 102, 2, 0, 0) := by decide +kernel
theorem q197_102 : am_look 197 102 = some (.imul, 103, 0, 0, 0) := by decide +kernel
theorem q197_103 : am_look 197 103 = some (.iload 5, 105, 5, 0, 0) := by decide +kernel
theorem q197_105 : am_look 197 105 = some (.iadd, 106, 0, 0, 0) := by decide +kernel
theorem q197_106 : am_look 197 106 = some (.iaload, 107, 0, 0, 0) := by decide +kernel
theorem q197_107 : am_look 197 107 = some (.istore 6, 109, 6, 0, 0) := by decide +kernel
theorem q197_109 : am_look 197 109 = some (.aload_n 0, 110, 0, 0, 0) := by decide +kernel
theorem q197_110 : am_look 197 110 = some (.getfield 25, 113, 775, 7, 0) := by decide +kernel
theorem q197_113 : am_look 197 113 = some (.bipush 6, 115, 0, 0, 6) := by decide +kernel
theorem q197_115 : am_look 197 115 = some (.iload_n 3, 116, 3, 0, 0) := by decide +kernel
theorem q197_116 : am_look 197 116 = some (.imul, 117, 0, 0, 0) := by decide +kernel
theorem q197_117 : am_look 197 117 = some (.iload 5, 119, 5, 0, 0) := by decide +kernel
theorem q197_119 : am_look 197 119 = some (.iadd, 120, 0, 0, 0) := by decide +kernel
theorem q197_120 : am_look 197 120 = some (.iaload, 121, 0, 0, 0) := by decide +kernel
theorem q197_121 : am_look 197 121 = some (.istore 7, 123, 7, 0, 0) := by decide +kernel
theorem q197_123 : am_look 197 123 = some (.iload 4, 125, 4, 0, 0) := by decide +kernel
theorem q197_125 : am_look 197 125 = some (.iload 6, 127, 6, 0, 0) := by decide +kernel
theorem q197_127 : am_look 197 127 = some (.ifCond .lt 8, 130, 135, 0, 0) := by decide +kernel
theorem q197_130 : am_look 197 130 = some (.iload 7, 132, 7, 0, 0) := by decide +kernel
theorem q197_132 : am_look 197 132 = some (.ifCond .ge 7, 135, 139, 0, 0) := by decide +kernel
theorem q197_135 : am_look 197 135 = some (.iconst 0, 136, 0, 0, 0) := by decide +kernel
theorem q197_136 : am_look 197 136 = some (.goto 16, 139, 152, 0, 0) := by decide +kernel
theorem q197_139 : am_look 197 139 = some (.aload_n 0, 140, 0, 0, 0) := by decide +kernel
theorem q197_140 : am_look 197 140 = some (.getfield 49, 143, 786, 18, 0) := by decide +kernel
theorem q197_143 : am_look 197 143 = some (.bipush 30, 145, 0, 0, 30) := by decide +kernel
theorem q197_145 : am_look 197 145 = some (.iload 6, 147, 6, 0, 0) := by decide +kernel
theorem q197_147 : am_look 197 147 = some (.imul, 148, 0, 0, 0) := by decide +kernel
theorem q197_148 : am_look 197 148 = some (.iload 7, 150, 7, 0, 0) := by decide +kernel
theorem q197_150 : am_look 197 150 = some (.iadd, 151, 0, 0, 0) := by decide +kernel
theorem q197_151 : am_look 197 151 = some (.iaload, 152, 0, 0, 0) := by decide +kernel
theorem q197_152 : am_look 197 152 = some (.iadd, 153, 0, 0, 0) := by decide +kernel
theorem q197_153 : am_look 197 153 = some (.istore 4, 155, 4, 0, 0) := by decide +kernel
theorem q197_155 : am_look 197 155 = some (.iinc 5 1, 158, 5, 0, 1) := by decide +kernel
theorem q197_158 : am_look 197 158 = some (.goto (-70), 161, 88, 0, 0) := by decide +kernel
theorem q197_161 : am_look 197 161 = some (.aload_n 0, 162, 0, 0, 0) := by decide +kernel
theorem q197_162 : am_look 197 162 = some (.getfield 46, 165, 785, 17, 0) := by decide +kernel
theorem q197_165 : am_look 197 165 = some (.bipush 12, 167, 0, 0, 12) := by decide +kernel
theorem q197_167 : am_look 197 167 = some (.iload_n 2, 168, 2, 0, 0) := by decide +kernel
theorem q197_168 : am_look 197 168 = some (.imul, 169, 0, 0, 0) := by decide +kernel
theorem q197_169 : am_look 197 169 = some (.iload_n 3, 170, 3, 0, 0) := by decide +kernel
theorem q197_170 : am_look 197 170 = some (.iadd, 171, 0, 0, 0) := by decide +kernel
theorem q197_171 : am_look 197 171 = some (.iload 4, 173, 4, 0, 0) := by decide +kernel
theorem q197_173 : am_look 197 173 = some (.iastore, 174, 0, 0, 0) := by decide +kernel
theorem q197_174 : am_look 197 174 = some (.iinc 3 1, 177, 3, 0, 1) := by decide +kernel
theorem q197_177 : am_look 197 177 = some (.goto (-105), 180, 72, 0, 0) := by decide +kernel
theorem q197_180 : am_look 197 180 = some (.iinc 2 1, 183, 2, 0, 1) := by decide +kernel
theorem q197_183 : am_look 197 183 = some (.goto (-123), 186, 60, 0, 0) := by decide +kernel
theorem q197_186 : am_look 197 186 = some (.return_, 187, 0, 0, 0) := by decide +kernel
theorem zb197 : am_zb 197 = false := by decide +kernel
theorem ml197 : am_ml 197 = 8 := by decide +kernel
theorem np197 : am_np 197 + (if am_sc 197 then 0 else 1) = 2 := by decide +kernel
theorem st197 {d : Nat} {h h1 : am_H} {r : Option am_V} (p0 : Nat) (a1 : Int) (H : am_x (am_cd d) 197 (fun r2 h2 => r2 = r ∧ h2 = h1) 0 0 [some (.inr (.inr p0)), some (.inl a1), none, none, none, none, none, none] [] h) : am_cd (d + 1) 197 [.inr (.inr p0), .inl a1] h r h1 := by
  refine ⟨⟨by rw [ml197]; simp [am_en], by rw [np197]; rfl⟩, ?_⟩
  rw [ml197]; exact H
theorem q198_0 : am_look 198 0 = some (.iload_n 1, 1, 1, 0, 0) := by decide +kernel
theorem q198_1 : am_look 198 1 = some (.invokestatic 134, 4, 116, 1, 99) := by decide +kernel
theorem q198_4 : am_look 198 4 = some (.ifCond .ne 10, 7, 14, 0, 0) := by decide +kernel
theorem q198_7 : am_look 198 7 = some (.aload_n 0, 8, 0, 0, 0) := by decide +kernel
theorem q198_8 : am_look 198 8 = some (.ldc 95, 10, 0, 0, (-100001)) := by decide +kernel
theorem q198_10 : am_look 198 10 = some (.invokevirtual 91, 13, 74, 2, 12) := by decide +kernel
theorem q198_13 : am_look 198 13 = some (.ireturn, 14, 0, 0, 0) := by decide +kernel
theorem q198_14 : am_look 198 14 = some (.aload_n 0, 15, 0, 0, 0) := by decide +kernel
theorem q198_15 : am_look 198 15 = some (.aload_n 0, 16, 0, 0, 0) := by decide +kernel
theorem q198_16 : am_look 198 16 = some (.getfield 7, 19, 768, 0, 0) := by decide +kernel
theorem q198_19 : am_look 198 19 = some (.iconst 4, 20, 0, 0, 4) := by decide +kernel
theorem q198_20 : am_look 198 20 = some (.iaload, 21, 0, 0, 0) := by decide +kernel
theorem q198_21 : am_look 198 21 = some (.invokevirtual 145, 24, 167, 2, 12) := by decide +kernel
theorem q198_24 : am_look 198 24 = some (.iconst (-1), 25, 0, 0, (-1)) := by decide +kernel
theorem q198_25 : am_look 198 25 = some (.istore_n 2, 26, 2, 0, 0) := by decide +kernel
theorem q198_26 : am_look 198 26 = some (.iconst 0, 27, 0, 0, 0) := by decide +kernel
theorem q198_27 : am_look 198 27 = some (.istore_n 3, 28, 3, 0, 0) := by decide +kernel
theorem q198_28 : am_look 198 28 = some (.iconst 0, 29, 0, 0, 0) := by decide +kernel
theorem q198_29 : am_look 198 29 = some (.istore 4, 31, 4, 0, 0) := by decide +kernel
theorem q198_31 : am_look 198 31 = some (.iload 4, 33, 4, 0, 0) := by decide +kernel
theorem q198_33 : am_look 198 33 = some (.aload_n 0, 34, 0, 0, 0) := by decide +kernel
theorem q198_34 : am_look 198 34 = some (.getfield 7, 37, 768, 0, 0) := by decide +kernel
theorem q198_37 : am_look 198 37 = some (.iconst 0, 38, 0, 0, 0) := by decide +kernel
theorem q198_38 : am_look 198 38 = some (.iaload, 39, 0, 0, 0) := by decide +kernel
theorem q198_39 : am_look 198 39 = some (.if_icmp .ge 147, 42, 186, 0, 0) := by decide +kernel
theorem q198_42 : am_look 198 42 = some (.aload_n 0, 43, 0, 0, 0) := by decide +kernel
theorem q198_43 : am_look 198 43 = some (.getfield 25, 46, 775, 7, 0) := by decide +kernel
theorem q198_46 : am_look 198 46 = some (.bipush 6, 48, 0, 0, 6) := by decide +kernel
theorem q198_48 : am_look 198 48 = some (.iload 4, 50, 4, 0, 0) := by decide +kernel
theorem q198_50 : am_look 198 50 = some (.imul, 51, 0, 0, 0) := by decide +kernel
theorem q198_51 : am_look 198 51 = some (.iload_n 1, 52, 1, 0, 0) := by decide +kernel
theorem q198_52 : am_look 198 52 = some (.iadd, 53, 0, 0, 0) := by decide +kernel
theorem q198_53 : am_look 198 53 = some (.iaload, 54, 0, 0, 0) := by decide +kernel
theorem q198_54 : am_look 198 54 = some (.ifCond .lt 6, 57, 60, 0, 0) := by decide +kernel
theorem q198_57 : am_look 198 57 = some (.goto 123, 60, 180, 0, 0) := by decide +kernel
theorem q198_60 : am_look 198 60 = some (.aload_n 0, 61, 0, 0, 0) := by decide +kernel
theorem q198_61 : am_look 198 61 = some (.iload 4, 63, 4, 0, 0) := by decide +kernel
theorem q198_63 : am_look 198 63 = some (.invokevirtual 109, 66, 120, 2, 12) := by decide +kernel
theorem q198_66 : am_look 198 66 = some (.ldc 202, 68, 0, 0, 1000000) := by decide +kernel
theorem q198_68 : am_look 198 68 = some (.istore 5, 70, 5, 0, 0) := by decide +kernel
theorem q198_70 : am_look 198 70 = some (.iconst 0, 71, 0, 0, 0) := by decide +kernel
theorem q198_71 : am_look 198 71 = some (.istore 6, 73, 6, 0, 0) := by decide +kernel
theorem q198_73 : am_look 198 73 = some (.iload 6, 75, 6, 0, 0) := by decide +kernel
theorem q198_75 : am_look 198 75 = some (.aload_n 0, 76, 0, 0, 0) := by decide +kernel
theorem q198_76 : am_look 198 76 = some (.getfield 7, 79, 768, 0, 0) := by decide +kernel
theorem q198_79 : am_look 198 79 = some (.iconst 0, 80, 0, 0, 0) := by decide +kernel
theorem q198_80 : am_look 198 80 = some (.iaload, 81, 0, 0, 0) := by decide +kernel
theorem q198_81 : am_look 198 81 = some (.if_icmp .ge 60, 84, 141, 0, 0) := by decide +kernel
theorem q198_84 : am_look 198 84 = some (.aload_n 0, 85, 0, 0, 0) := by decide +kernel
theorem q198_85 : am_look 198 85 = some (.getfield 25, 88, 775, 7, 0) := by decide +kernel
theorem q198_88 : am_look 198 88 = some (.bipush 6, 90, 0, 0, 6) := by decide +kernel
theorem q198_90 : am_look 198 90 = some (.iload 6, 92, 6, 0, 0) := by decide +kernel
theorem q198_92 : am_look 198 92 = some (.imul, 93, 0, 0, 0) := by decide +kernel
theorem q198_93 : am_look 198 93 = some (.iload_n 1, 94, 1, 0, 0) := by decide +kernel
theorem q198_94 : am_look 198 94 = some (.iadd, 95, 0, 0, 0) := by decide +kernel
theorem q198_95 : am_look 198 95 = some (.iaload, 96, 0, 0, 0) := by decide +kernel
theorem q198_96 : am_look 198 96 = some (.ifCond .lt 35, 99, 131, 0, 0) := by decide +kernel
theorem q198_99 : am_look 198 99 = some (.aload_n 0, 100, 0, 0, 0) := by decide +kernel
theorem q198_100 : am_look 198 100 = some (.getfield 16, 103, 772, 4, 0) := by decide +kernel
theorem q198_103 : am_look 198 103 = some (.iload 6, 105, 6, 0, 0) := by decide +kernel
theorem q198_105 : am_look 198 105 = some (.iaload, 106, 0, 0, 0) := by decide +kernel
theorem q198_106 : am_look 198 106 = some (.ifCond .lt 25, 109, 131, 0, 0) := by decide +kernel
theorem q198_109 : am_look 198 109 = some (.aload_n 0, 110, 0, 0, 0) := by decide +kernel
theorem q198_110 : am_look 198 110 = some (.getfield 16, 113, 772, 4, 0) := by decide +kernel
theorem q198_113 : am_look 198 113 = some (.iload 6, 115, 6, 0, 0) := by decide +kernel
theorem q198_115 : am_look 198 115 = some (.iaload, 116, 0, 0, 0) := by decide +kernel
theorem q198_116 : am_look 198 116 = some (.iload 5, 118, 5, 0, 0) := by decide +kernel
theorem q198_118 : am_look 198 118 = some (.if_icmp .ge 13, 121, 131, 0, 0) := by decide +kernel
theorem q198_121 : am_look 198 121 = some (.aload_n 0, 122, 0, 0, 0) := by decide +kernel
theorem q198_122 : am_look 198 122 = some (.getfield 16, 125, 772, 4, 0) := by decide +kernel
theorem q198_125 : am_look 198 125 = some (.iload 6, 127, 6, 0, 0) := by decide +kernel
theorem q198_127 : am_look 198 127 = some (.iaload, 128, 0, 0, 0) := by decide +kernel
theorem q198_128 : am_look 198 128 = some (.goto 5, 131, 133, 0, 0) := by decide +kernel
theorem q198_131 : am_look 198 131 = some (.iload 5, 133, 5, 0, 0) := by decide +kernel
theorem q198_133 : am_look 198 133 = some (.istore 5, 135, 5, 0, 0) := by decide +kernel
theorem q198_135 : am_look 198 135 = some (.iinc 6 1, 138, 6, 0, 1) := by decide +kernel
theorem q198_138 : am_look 198 138 = some (.goto (-65), 141, 73, 0, 0) := by decide +kernel
theorem q198_141 : am_look 198 141 = some (.iload_n 2, 142, 2, 0, 0) := by decide +kernel
theorem q198_142 : am_look 198 142 = some (.ifCond .lt 32, 145, 174, 0, 0) := by decide +kernel
theorem q198_145 : am_look 198 145 = some (.iload 5, 147, 5, 0, 0) := by decide +kernel
theorem q198_147 : am_look 198 147 = some (.iload_n 3, 148, 3, 0, 0) := by decide +kernel
theorem q198_148 : am_look 198 148 = some (.if_icmp .lt 32, 151, 180, 0, 0) := by decide +kernel
theorem q198_151 : am_look 198 151 = some (.iload 5, 153, 5, 0, 0) := by decide +kernel
theorem q198_153 : am_look 198 153 = some (.iload_n 3, 154, 3, 0, 0) := by decide +kernel
theorem q198_154 : am_look 198 154 = some (.if_icmp .ne 20, 157, 174, 0, 0) := by decide +kernel
theorem q198_157 : am_look 198 157 = some (.aload_n 0, 158, 0, 0, 0) := by decide +kernel
theorem q198_158 : am_look 198 158 = some (.iload 4, 160, 4, 0, 0) := by decide +kernel
theorem q198_160 : am_look 198 160 = some (.invokevirtual 182, 163, 75, 2, 12) := by decide +kernel
theorem q198_163 : am_look 198 163 = some (.aload_n 0, 164, 0, 0, 0) := by decide +kernel
theorem q198_164 : am_look 198 164 = some (.iload_n 2, 165, 2, 0, 0) := by decide +kernel
theorem q198_165 : am_look 198 165 = some (.invokevirtual 182, 168, 75, 2, 12) := by decide +kernel
theorem q198_168 : am_look 198 168 = some (.if_icmp .gt 6, 171, 174, 0, 0) := by decide +kernel
theorem q198_171 : am_look 198 171 = some (.goto 9, 174, 180, 0, 0) := by decide +kernel
theorem q198_174 : am_look 198 174 = some (.iload 4, 176, 4, 0, 0) := by decide +kernel
theorem q198_176 : am_look 198 176 = some (.istore_n 2, 177, 2, 0, 0) := by decide +kernel
theorem q198_177 : am_look 198 177 = some (.iload 5, 179, 5, 0, 0) := by decide +kernel
theorem q198_179 : am_look 198 179 = some (.istore_n 3, 180, 3, 0, 0) := by decide +kernel
theorem q198_180 : am_look 198 180 = some (.iinc 4 1, 183, 4, 0, 1) := by decide +kernel
theorem q198_183 : am_look 198 183 = some (.goto (-152), 186, 31, 0, 0) := by decide +kernel
theorem q198_186 : am_look 198 186 = some (.iload_n 2, 187, 2, 0, 0) := by decide +kernel
theorem q198_187 : am_look 198 187 = some (.ifCond .ge 12, 190, 199, 0, 0) := by decide +kernel
theorem q198_190 : am_look 198 190 = some (.aload_n 0, 191, 0, 0, 0) := by decide +kernel
theorem q198_191 : am_look 198 191 = some (.ldc 90, 193, 0, 0, (-100006)) := by decide +kernel
theorem q198_193 : am_look 198 193 = some (.invokevirtual 91, 196, 74, 2, 12) := by decide +kernel
theorem q198_196 : am_look 198 196 = some (.goto 4, 199, 200, 0, 0) := by decide +kernel
theorem q198_199 : am_look 198 199 = some (.iload_n 2, 200, 2, 0, 0) := by decide +kernel
theorem q198_200 : am_look 198 200 = some (.ireturn, 201, 0, 0, 0) := by decide +kernel
theorem zb198 : am_zb 198 = false := by decide +kernel
theorem ml198 : am_ml 198 = 7 := by decide +kernel
theorem np198 : am_np 198 + (if am_sc 198 then 0 else 1) = 2 := by decide +kernel
theorem st198 {d : Nat} {h h1 : am_H} {r : Option am_V} (p0 : Nat) (a1 : Int) (H : am_x (am_cd d) 198 (fun r2 h2 => r2 = r ∧ h2 = h1) 0 0 [some (.inr (.inr p0)), some (.inl a1), none, none, none, none, none] [] h) : am_cd (d + 1) 198 [.inr (.inr p0), .inl a1] h r h1 := by
  refine ⟨⟨by rw [ml198]; simp [am_en], by rw [np198]; rfl⟩, ?_⟩
  rw [ml198]; exact H
theorem q199_0 : am_look 199 0 = some (.aload_n 0, 1, 0, 0, 0) := by decide +kernel
theorem q199_1 : am_look 199 1 = some (.iload_n 1, 2, 1, 0, 0) := by decide +kernel
theorem q199_2 : am_look 199 2 = some (.invokevirtual 100, 5, 114, 2, 12) := by decide +kernel
theorem q199_5 : am_look 199 5 = some (.ifCond .eq 10, 8, 15, 0, 0) := by decide +kernel
theorem q199_8 : am_look 199 8 = some (.iload_n 2, 9, 2, 0, 0) := by decide +kernel
theorem q199_9 : am_look 199 9 = some (.invokestatic 134, 12, 116, 1, 99) := by decide +kernel
theorem q199_12 : am_look 199 12 = some (.ifCond .ne 10, 15, 22, 0, 0) := by decide +kernel
theorem q199_15 : am_look 199 15 = some (.aload_n 0, 16, 0, 0, 0) := by decide +kernel
theorem q199_16 : am_look 199 16 = some (.ldc 95, 18, 0, 0, (-100001)) := by decide +kernel
theorem q199_18 : am_look 199 18 = some (.invokevirtual 91, 21, 74, 2, 12) := by decide +kernel
theorem q199_21 : am_look 199 21 = some (.ireturn, 22, 0, 0, 0) := by decide +kernel
theorem q199_22 : am_look 199 22 = some (.aload_n 0, 23, 0, 0, 0) := by decide +kernel
theorem q199_23 : am_look 199 23 = some (.aload_n 0, 24, 0, 0, 0) := by decide +kernel
theorem q199_24 : am_look 199 24 = some (.getfield 7, 27, 768, 0, 0) := by decide +kernel
theorem q199_27 : am_look 199 27 = some (.iconst 4, 28, 0, 0, 4) := by decide +kernel
theorem q199_28 : am_look 199 28 = some (.iaload, 29, 0, 0, 0) := by decide +kernel
theorem q199_29 : am_look 199 29 = some (.invokevirtual 145, 32, 167, 2, 12) := by decide +kernel
theorem q199_32 : am_look 199 32 = some (.aload_n 0, 33, 0, 0, 0) := by decide +kernel
theorem q199_33 : am_look 199 33 = some (.iload_n 1, 34, 1, 0, 0) := by decide +kernel
theorem q199_34 : am_look 199 34 = some (.invokevirtual 109, 37, 120, 2, 12) := by decide +kernel
theorem q199_37 : am_look 199 37 = some (.iconst (-1), 38, 0, 0, (-1)) := by decide +kernel
theorem q199_38 : am_look 199 38 = some (.istore_n 3, 39, 3, 0, 0) := by decide +kernel
theorem q199_39 : am_look 199 39 = some (.iconst (-1), 40, 0, 0, (-1)) := by decide +kernel
theorem q199_40 : am_look 199 40 = some (.istore 4, 42, 4, 0, 0) := by decide +kernel
theorem q199_42 : am_look 199 42 = some (.iconst 0, 43, 0, 0, 0) := by decide +kernel
theorem q199_43 : am_look 199 43 = some (.istore 5, 45, 5, 0, 0) := by decide +kernel
theorem q199_45 : am_look 199 45 = some (.iload 5, 47, 5, 0, 0) := by decide +kernel
theorem q199_47 : am_look 199 47 = some (.aload_n 0, 48, 0, 0, 0) := by decide +kernel
theorem q199_48 : am_look 199 48 = some (.getfield 7, 51, 768, 0, 0) := by decide +kernel
theorem q199_51 : am_look 199 51 = some (.iconst 2, 52, 0, 0, 2) := by decide +kernel
theorem q199_52 : am_look 199 52 = some (.iaload, 53, 0, 0, 0) := by decide +kernel
theorem q199_53 : am_look 199 53 = some (.if_icmp .ge 117, 56, 170, 0, 0) := by decide +kernel
theorem q199_56 : am_look 199 56 = some (.iconst 0, 57, 0, 0, 0) := by decide +kernel
theorem q199_57 : am_look 199 57 = some (.istore 6, 59, 6, 0, 0) := by decide +kernel
theorem q199_59 : am_look 199 59 = some (.iconst 0, 60, 0, 0, 0) := by decide +kernel
theorem q199_60 : am_look 199 60 = some (.istore 7, 62, 7, 0, 0) := by decide +kernel
theorem q199_62 : am_look 199 62 = some (.iconst 0, 63, 0, 0, 0) := by decide +kernel
theorem q199_63 : am_look 199 63 = some (.istore 8, 65, 8, 0, 0) := by decide +kernel
theorem q199_65 : am_look 199 65 = some (.iload 8, 67, 8, 0, 0) := by decide +kernel
theorem q199_67 : am_look 199 67 = some (.aload_n 0, 68, 0, 0, 0) := by decide +kernel
theorem q199_68 : am_look 199 68 = some (.getfield 7, 71, 768, 0, 0) := by decide +kernel
theorem q199_71 : am_look 199 71 = some (.iconst 0, 72, 0, 0, 0) := by decide +kernel
theorem q199_72 : am_look 199 72 = some (.iaload, 73, 0, 0, 0) := by decide +kernel
theorem q199_73 : am_look 199 73 = some (.if_icmp .ge 69, 76, 142, 0, 0) := by decide +kernel
theorem q199_76 : am_look 199 76 = some (.iload 8, 78, 8, 0, 0) := by decide +kernel
theorem q199_78 : am_look 199 78 = some (.iload_n 1, 79, 1, 0, 0) := by decide +kernel
theorem q199_79 : am_look 199 79 = some (.if_icmp .eq 57, 82, 136, 0, 0) := by decide +kernel
theorem q199_82 : am_look 199 82 = some (.aload_n 0, 83, 0, 0, 0) := by decide +kernel
theorem q199_83 : am_look 199 83 = some (.getfield 16, 86, 772, 4, 0) := by decide +kernel
theorem q199_86 : am_look 199 86 = some (.iload 8, 88, 8, 0, 0) := by decide +kernel
theorem q199_88 : am_look 199 88 = some (.iaload, 89, 0, 0, 0) := by decide +kernel
theorem q199_89 : am_look 199 89 = some (.ifCond .lt 47, 92, 136, 0, 0) := by decide +kernel
theorem q199_92 : am_look 199 92 = some (.aload_n 0, 93, 0, 0, 0) := by decide +kernel
theorem q199_93 : am_look 199 93 = some (.getfield 25, 96, 775, 7, 0) := by decide +kernel
theorem q199_96 : am_look 199 96 = some (.bipush 6, 98, 0, 0, 6) := by decide +kernel
theorem q199_98 : am_look 199 98 = some (.iload 8, 100, 8, 0, 0) := by decide +kernel
theorem q199_100 : am_look 199 100 = some (.imul, 101, 0, 0, 0) := by decide +kernel
theorem q199_101 : am_look 199 101 = some (.iload_n 2, 102, 2, 0, 0) := by decide +kernel
theorem q199_102 : am_look 199 102 = some (.iadd, 103, 0, 0, 0) := by decide +kernel
theorem q199_103 : am_look 199 103 = some (.iaload, 104, 0, 0, 0) := by decide +kernel
theorem q199_104 : am_look 199 104 = some (.iload 5, 106, 5, 0, 0) := by decide +kernel
theorem q199_106 : am_look 199 106 = some (.if_icmp .eq 6, 109, 112, 0, 0) := by decide +kernel
theorem q199_109 : am_look 199 109 = some (.goto 27, 112, 136, 0, 0) := by decide +kernel
theorem q199_112 : am_look 199 112 = some (.iconst 1, 113, 0, 0, 1) := by decide +kernel
theorem q199_113 : am_look 199 113 = some (.istore 7, 115, 7, 0, 0) := by decide +kernel
theorem q199_115 : am_look 199 115 = some (.iload 6, 117, 6, 0, 0) := by decide +kernel
theorem q199_117 : am_look 199 117 = some (.aload_n 0, 118, 0, 0, 0) := by decide +kernel
theorem q199_118 : am_look 199 118 = some (.iload 8, 120, 8, 0, 0) := by decide +kernel
theorem q199_120 : am_look 199 120 = some (.invokevirtual 182, 123, 75, 2, 12) := by decide +kernel
theorem q199_123 : am_look 199 123 = some (.iconst 1, 124, 0, 0, 1) := by decide +kernel
theorem q199_124 : am_look 199 124 = some (.aload_n 0, 125, 0, 0, 0) := by decide +kernel
theorem q199_125 : am_look 199 125 = some (.getfield 16, 128, 772, 4, 0) := by decide +kernel
theorem q199_128 : am_look 199 128 = some (.iload 8, 130, 8, 0, 0) := by decide +kernel
theorem q199_130 : am_look 199 130 = some (.iaload, 131, 0, 0, 0) := by decide +kernel
theorem q199_131 : am_look 199 131 = some (.iadd, 132, 0, 0, 0) := by decide +kernel
theorem q199_132 : am_look 199 132 = some (.idiv, 133, 0, 0, 0) := by decide +kernel
theorem q199_133 : am_look 199 133 = some (.iadd, 134, 0, 0, 0) := by decide +kernel
theorem q199_134 : am_look 199 134 = some (.istore 6, 136, 6, 0, 0) := by decide +kernel
theorem q199_136 : am_look 199 136 = some (.iinc 8 1, 139, 8, 0, 1) := by decide +kernel
theorem q199_139 : am_look 199 139 = some (.goto (-74), 142, 65, 0, 0) := by decide +kernel
theorem q199_142 : am_look 199 142 = some (.iload 7, 144, 7, 0, 0) := by decide +kernel
theorem q199_144 : am_look 199 144 = some (.ifCond .eq 20, 147, 164, 0, 0) := by decide +kernel
theorem q199_147 : am_look 199 147 = some (.iload 6, 149, 6, 0, 0) := by decide +kernel
theorem q199_149 : am_look 199 149 = some (.iload 4, 151, 4, 0, 0) := by decide +kernel
theorem q199_151 : am_look 199 151 = some (.if_icmp .gt 6, 154, 157, 0, 0) := by decide +kernel
theorem q199_154 : am_look 199 154 = some (.goto 10, 157, 164, 0, 0) := by decide +kernel
theorem q199_157 : am_look 199 157 = some (.iload 5, 159, 5, 0, 0) := by decide +kernel
theorem q199_159 : am_look 199 159 = some (.istore_n 3, 160, 3, 0, 0) := by decide +kernel
theorem q199_160 : am_look 199 160 = some (.iload 6, 162, 6, 0, 0) := by decide +kernel
theorem q199_162 : am_look 199 162 = some (.istore 4, 164, 4, 0, 0) := by decide +kernel
theorem q199_164 : am_look 199 164 = some (.iinc 5 1, 167, 5, 0, 1) := by decide +kernel
theorem q199_167 : am_look 199 167 = some (.goto (-122), 170, 45, 0, 0) := by decide +kernel
theorem q199_170 : am_look 199 170 = some (.iload_n 3, 171, 3, 0, 0) := by decide +kernel
theorem q199_171 : am_look 199 171 = some (.ifCond .ge 12, 174, 183, 0, 0) := by decide +kernel
theorem q199_174 : am_look 199 174 = some (.aload_n 0, 175, 0, 0, 0) := by decide +kernel
theorem q199_175 : am_look 199 175 = some (.ldc 90, 177, 0, 0, (-100006)) := by decide +kernel
theorem q199_177 : am_look 199 177 = some (.invokevirtual 91, 180, 74, 2, 12) := by decide +kernel
theorem q199_180 : am_look 199 180 = some (.goto 4, 183, 184, 0, 0) := by decide +kernel
theorem q199_183 : am_look 199 183 = some (.iload_n 3, 184, 3, 0, 0) := by decide +kernel
theorem q199_184 : am_look 199 184 = some (.ireturn, 185, 0, 0, 0) := by decide +kernel
theorem zb199 : am_zb 199 = false := by decide +kernel
theorem ml199 : am_ml 199 = 9 := by decide +kernel
theorem np199 : am_np 199 + (if am_sc 199 then 0 else 1) = 3 := by decide +kernel
theorem st199 {d : Nat} {h h1 : am_H} {r : Option am_V} (p0 : Nat) (a1 : Int) (a2 : Int) (H : am_x (am_cd d) 199 (fun r2 h2 => r2 = r ∧ h2 = h1) 0 0 [some (.inr (.inr p0)), some (.inl a1), some (.inl a2), none, none, none, none, none, none] [] h) : am_cd (d + 1) 199 [.inr (.inr p0), .inl a1, .inl a2] h r h1 := by
  refine ⟨⟨by rw [ml199]; simp [am_en], by rw [np199]; rfl⟩, ?_⟩
  rw [ml199]; exact H
theorem q200_0 : am_look 200 0 = some (.iload_n 1, 1, 1, 0, 0) := by decide +kernel
theorem q200_1 : am_look 200 1 = some (.ifCond .lt 24, 4, 25, 0, 0) := by decide +kernel
theorem q200_4 : am_look 200 4 = some (.iload_n 1, 5, 1, 0, 0) := by decide +kernel
theorem q200_5 : am_look 200 5 = some (.aload_n 0, 6, 0, 0, 0) := by decide +kernel
theorem q200_6 : am_look 200 6 = some (.getfield 7, 9, 768, 0, 0) := by decide +kernel
theorem q200_9 : am_look 200 9 = some (.iconst 0, 10, 0, 0, 0) := by decide +kernel
theorem q200_10 : am_look 200 10 = some (.iaload, 11, 0, 0, 0) := by decide +kernel
theorem q200_11 : am_look 200 11 = some (.ishr, 12, 0, 0, 0) := by decide +kernel
theorem q200_12 : am_look 200 12 = some (.ifCond .ne 13, 15, 25, 0, 0) := by decide +kernel
theorem q200_15 : am_look 200 15 = some (.iload_n 2, 16, 2, 0, 0) := by decide +kernel
theorem q200_16 : am_look 200 16 = some (.iconst 0, 17, 0, 0, 0) := by decide +kernel
theorem q200_17 : am_look 200 17 = some (.bipush 30, 19, 0, 0, 30) := by decide +kernel
theorem q200_19 : am_look 200 19 = some (.invokestatic 83, 22, 73, 3, 99) := by decide +kernel
theorem q200_22 : am_look 200 22 = some (.ifCond .ne 12, 25, 34, 0, 0) := by decide +kernel
theorem q200_25 : am_look 200 25 = some (.aload_n 0, 26, 0, 0, 0) := by decide +kernel
theorem q200_26 : am_look 200 26 = some (.ldc 95, 28, 0, 0, (-100001)) := by decide +kernel
theorem q200_28 : am_look 200 28 = some (.invokevirtual 91, 31, 74, 2, 12) := by decide +kernel
theorem q200_31 : am_look 200 31 = some (.goto 9, 34, 40, 0, 0) := by decide +kernel
theorem q200_34 : am_look 200 34 = some (.aload_n 0, 35, 0, 0, 0) := by decide +kernel
theorem q200_35 : am_look 200 35 = some (.iload_n 1, 36, 1, 0, 0) := by decide +kernel
theorem q200_36 : am_look 200 36 = some (.iload_n 2, 37, 2, 0, 0) := by decide +kernel
theorem q200_37 : am_look 200 37 = some (.invokevirtual 221, 40, 171, 3, 12) := by decide +kernel
theorem q200_40 : am_look 200 40 = some (.ireturn, 41, 0, 0, 0) := by decide +kernel
theorem zb200 : am_zb 200 = false := by decide +kernel
theorem ml200 : am_ml 200 = 3 := by decide +kernel
theorem np200 : am_np 200 + (if am_sc 200 then 0 else 1) = 3 := by decide +kernel
theorem st200 {d : Nat} {h h1 : am_H} {r : Option am_V} (p0 : Nat) (a1 : Int) (a2 : Int) (H : am_x (am_cd d) 200 (fun r2 h2 => r2 = r ∧ h2 = h1) 0 0 [some (.inr (.inr p0)), some (.inl a1), some (.inl a2)] [] h) : am_cd (d + 1) 200 [.inr (.inr p0), .inl a1, .inl a2] h r h1 := by
  refine ⟨⟨by rw [ml200]; simp [am_en], by rw [np200]; rfl⟩, ?_⟩
  rw [ml200]; exact H
theorem q201_0 : am_look 201 0 = some (.iload_n 1, 1, 1, 0, 0) := by decide +kernel
theorem q201_1 : am_look 201 1 = some (.iconst 0, 2, 0, 0, 0) := by decide +kernel
theorem q201_2 : am_look 201 2 = some (.bipush 30, 4, 0, 0, 30) := by decide +kernel
theorem q201_4 : am_look 201 4 = some (.invokestatic 83, 7, 73, 3, 99) := by decide +kernel
theorem q201_7 : am_look 201 7 = some (.ifCond .ne 10, 10, 17, 0, 0) := by decide +kernel
theorem q201_10 : am_look 201 10 = some (.aload_n 0, 11, 0, 0, 0) := by decide +kernel
theorem q201_11 : am_look 201 11 = some (.ldc 95, 13, 0, 0, (-100001)) := by decide +kernel
theorem q201_13 : am_look 201 13 = some (.invokevirtual 91, 16, 74, 2, 12) := by decide +kernel
theorem q201_16 : am_look 201 16 = some (.ireturn, 17, 0, 0, 0) := by decide +kernel
theorem q201_17 : am_look 201 17 = some (.iconst 1, 18, 0, 0, 1) := by decide +kernel
theorem q201_18 : am_look 201 18 = some (.aload_n 0, 19, 0, 0, 0) := by decide +kernel
theorem q201_19 : am_look 201 19 = some (.getfield 7, 22, 768, 0, 0) := by decide +kernel
theorem q201_22 : am_look 201 22 = some (.iconst 0, 23, 0, 0, 0) := by decide +kernel
theorem q201_23 : am_look 201 23 = some (.iaload, 24, 0, 0, 0) := by decide +kernel
theorem q201_24 : am_look 201 24 = some (.ishl, 25, 0, 0, 0) := by decide +kernel
theorem q201_25 : am_look 201 25 = some (.iconst 1, 26, 0, 0, 1) := by decide +kernel
theorem q201_26 : am_look 201 26 = some (.isub, 27, 0, 0, 0) := by decide +kernel
theorem q201_27 : am_look 201 27 = some (.istore_n 2, 28, 2, 0, 0) := by decide +kernel
theorem q201_28 : am_look 201 28 = some (.iconst 0, 29, 0, 0, 0) := by decide +kernel
theorem q201_29 : am_look 201 29 = some (.istore_n 3, 30, 3, 0, 0) := by decide +kernel
theorem q201_30 : am_look 201 30 = some (.iload_n 3, 31, 3, 0, 0) := by decide +kernel
theorem q201_31 : am_look 201 31 = some (.iconst 4, 32, 0, 0, 4) := by decide +kernel
theorem q201_32 : am_look 201 32 = some (.if_icmp .ge 47, 35, 79, 0, 0) := by decide +kernel
theorem q201_35 : am_look 201 35 = some (.iconst 0, 36, 0, 0, 0) := by decide +kernel
theorem q201_36 : am_look 201 36 = some (.istore 4, 38, 4, 0, 0) := by decide +kernel
theorem q201_38 : am_look 201 38 = some (.iload 4, 40, 4, 0, 0) := by decide +kernel
theorem q201_40 : am_look 201 40 = some (.iload_n 2, 41, 2, 0, 0) := by decide +kernel
theorem q201_41 : am_look 201 41 = some (.if_icmp .gt 32, 44, 73, 0, 0) := by decide +kernel
theorem q201_44 : am_look 201 44 = some (.iload 4, 46, 4, 0, 0) := by decide +kernel
theorem q201_46 : am_look 201 46 = some (.invokestatic 212, 49, 85, 1, 99) := by decide +kernel
theorem q201_49 : am_look 201 49 = some (.iload_n 3, 50, 3, 0, 0) := by decide +kernel
theorem q201_50 : am_look 201 50 = some (.if_icmp .ne 17, 53, 67, 0, 0) := by decide +kernel
theorem q201_53 : am_look 201 53 = some (.aload_n 0, 54, 0, 0, 0) := by decide +kernel
theorem q201_54 : am_look 201 54 = some (.iload 4, 56, 4, 0, 0) := by decide +kernel
theorem q201_56 : am_look 201 56 = some (.iload_n 1, 57, 1, 0, 0) := by decide +kernel
theorem q201_57 : am_look 201 57 = some (.invokevirtual 221, 60, 171, 3, 12) := by decide +kernel
theorem q201_60 : am_look 201 60 = some (.iload_n 2, 61, 2, 0, 0) := by decide +kernel
theorem q201_61 : am_look 201 61 = some (.if_icmp .ne 6, 64, 67, 0, 0) := by decide +kernel
theorem q201_64 : am_look 201 64 = some (.iload 4, 66, 4, 0, 0) := by decide +kernel
theorem q201_66 : am_look 201 66 = some (.ireturn, 67, 0, 0, 0) := by decide +kernel
theorem q201_67 : am_look 201 67 = some (.iinc 4 1, 70, 4, 0, 1) := by decide +kernel
theorem q201_70 : am_look 201 70 = some (.goto (-32), 73, 38, 0, 0) := by decide +kernel
theorem q201_73 : am_look 201 73 = some (.iinc 3 1, 76, 3, 0, 1) := by decide +kernel
theorem q201_76 : am_look 201 76 = some (.goto (-46), 79, 30, 0, 0) := by decide +kernel
theorem q201_79 : am_look 201 79 = some (.aload_n 0, 80, 0, 0, 0) := by decide +kernel
theorem q201_80 : am_look 201 80 = some (.ldc 90, 82, 0, 0, (-100006)) := by decide +kernel
theorem q201_82 : am_look 201 82 = some (.invokevirtual 91, 85, 74, 2, 12) := by decide +kernel
theorem q201_85 : am_look 201 85 = some (.ireturn, 86, 0, 0, 0) := by decide +kernel
theorem zb201 : am_zb 201 = false := by decide +kernel
theorem ml201 : am_ml 201 = 5 := by decide +kernel
theorem np201 : am_np 201 + (if am_sc 201 then 0 else 1) = 2 := by decide +kernel
theorem st201 {d : Nat} {h h1 : am_H} {r : Option am_V} (p0 : Nat) (a1 : Int) (H : am_x (am_cd d) 201 (fun r2 h2 => r2 = r ∧ h2 = h1) 0 0 [some (.inr (.inr p0)), some (.inl a1), none, none, none] [] h) : am_cd (d + 1) 201 [.inr (.inr p0), .inl a1] h r h1 := by
  refine ⟨⟨by rw [ml201]; simp [am_en], by rw [np201]; rfl⟩, ?_⟩
  rw [ml201]; exact H
theorem q202_0 : am_look 202 0 = some (.aload_n 0, 1, 0, 0, 0) := by decide +kernel
theorem q202_1 : am_look 202 1 = some (.iload_n 1, 2, 1, 0, 0) := by decide +kernel
theorem q202_2 : am_look 202 2 = some (.iload_n 2, 3, 2, 0, 0) := by decide +kernel
theorem q202_3 : am_look 202 3 = some (.iload_n 3, 4, 3, 0, 0) := by decide +kernel
theorem q202_4 : am_look 202 4 = some (.iload 4, 6, 4, 0, 0) := by decide +kernel
theorem q202_6 : am_look 202 6 = some (.invokevirtual 32, 9, 175, 5, 2) := by decide +kernel
theorem q202_9 : am_look 202 9 = some (.aload_n 0, 10, 0, 0, 0) := by decide +kernel
theorem q202_10 : am_look 202 10 = some (.ldc 36, 12, 0, 0, 1000000) := by decide +kernel
theorem q202_12 : am_look 202 12 = some (.putfield 19, 15, 132, 4, 0) := by decide +kernel
theorem q202_15 : am_look 202 15 = some (.iconst 0, 16, 0, 0, 0) := by decide +kernel
theorem q202_16 : am_look 202 16 = some (.istore 5, 18, 5, 0, 0) := by decide +kernel
theorem q202_18 : am_look 202 18 = some (.iload 5, 20, 5, 0, 0) := by decide +kernel
theorem q202_20 : am_look 202 20 = some (.getstatic 37, 23, 2002, 0, 0) := by decide +kernel
theorem q202_23 : am_look 202 23 = some (.arraylength, 24, 0, 0, 0) := by decide +kernel
theorem q202_24 : am_look 202 24 = some (.if_icmp .ge 55, 27, 79, 0, 0) := by decide +kernel
theorem q202_27 : am_look 202 27 = some (.aload_n 0, 28, 0, 0, 0) := by decide +kernel
theorem q202_28 : am_look 202 28 = some (.iload 5, 30, 5, 0, 0) := by decide +kernel
theorem q202_30 : am_look 202 30 = some (.sipush (-200), 33, 0, 0, (-200)) := by decide +kernel
theorem q202_33 : am_look 202 33 = some (.invokevirtual 41, 36, 140, 3, 2) := by decide +kernel
theorem q202_36 : am_look 202 36 = some (.iconst 0, 37, 0, 0, 0) := by decide +kernel
theorem q202_37 : am_look 202 37 = some (.istore 6, 39, 6, 0, 0) := by decide +kernel
theorem q202_39 : am_look 202 39 = some (.iload 6, 41, 6, 0, 0) := by decide +kernel
theorem q202_41 : am_look 202 41 = some (.aload_n 0, 42, 0, 0, 0) := by decide +kernel
theorem q202_42 : am_look 202 42 = some (.getfield 9, 45, 128, 0, 0) := by decide +kernel
theorem q202_45 : am_look 202 45 = some (.invokevirtual 45, 48, 36, 1, 6) := by decide +kernel
theorem q202_48 : am_look 202 48 = some (.if_icmp .ge 25, 51, 73, 0, 0) := by decide +kernel
theorem q202_51 : am_look 202 51 = some (.aload_n 0, 52, 0, 0, 0) := by decide +kernel
theorem q202_52 : am_look 202 52 = some (.iload 5, 54, 5, 0, 0) := by decide +kernel
theorem q202_54 : am_look 202 54 = some (.aload_n 0, 55, 0, 0, 0) := by decide +kernel
theorem q202_55 : am_look 202 55 = some (.iload 6, 57, 6, 0, 0) := by decide +kernel
theorem q202_57 : am_look 202 57 = some (.iload 5, 59, 5, 0, 0) := by decide +kernel
theorem q202_59 : am_look 202 59 = some (.invokevirtual 51, 62, 93, 3, 2) := by decide +kernel
theorem q202_62 : am_look 202 62 = some (.iconst 1, 63, 0, 0, 1) := by decide +kernel
theorem q202_63 : am_look 202 63 = some (.iadd, 64, 0, 0, 0) := by decide +kernel
theorem q202_64 : am_look 202 64 = some (.invokevirtual 41, 67, 140, 3, 2) := by decide +kernel
theorem q202_67 : am_look 202 67 = some (.iinc 6 1, 70, 6, 0, 1) := by decide +kernel
theorem q202_70 : am_look 202 70 = some (.goto (-31), 73, 39, 0, 0) := by decide +kernel
theorem q202_73 : am_look 202 73 = some (.iinc 5 1, 76, 5, 0, 1) := by decide +kernel
theorem q202_76 : am_look 202 76 = some (.goto (-58), 79, 18, 0, 0) := by decide +kernel
theorem q202_79 : am_look 202 79 = some (.return_, 80, 0, 0, 0) := by decide +kernel
theorem zb202 : am_zb 202 = false := by decide +kernel
theorem ml202 : am_ml 202 = 7 := by decide +kernel
theorem np202 : am_np 202 + (if am_sc 202 then 0 else 1) = 5 := by decide +kernel
theorem st202 {d : Nat} {h h1 : am_H} {r : Option am_V} (p0 : Nat) (a1 : Int) (a2 : Int) (a3 : Int) (a4 : Int) (H : am_x (am_cd d) 202 (fun r2 h2 => r2 = r ∧ h2 = h1) 0 0 [some (.inr (.inr p0)), some (.inl a1), some (.inl a2), some (.inl a3), some (.inl a4), none, none] [] h) : am_cd (d + 1) 202 [.inr (.inr p0), .inl a1, .inl a2, .inl a3, .inl a4] h r h1 := by
  refine ⟨⟨by rw [ml202]; simp [am_en], by rw [np202]; rfl⟩, ?_⟩
  rw [ml202]; exact H
theorem q203_0 : am_look 203 0 = some (.aload_n 0, 1, 0, 0, 0) := by decide +kernel
theorem q203_1 : am_look 203 1 = some (.iload_n 1, 2, 1, 0, 0) := by decide +kernel
theorem q203_2 : am_look 203 2 = some (.iload_n 3, 3, 3, 0, 0) := by decide +kernel
theorem q203_3 : am_look 203 3 = some (.invokevirtual 41, 6, 176, 3, 3) := by decide +kernel
theorem q203_6 : am_look 203 6 = some (.aload_n 0, 7, 0, 0, 0) := by decide +kernel
theorem q203_7 : am_look 203 7 = some (.iload_n 2, 8, 2, 0, 0) := by decide +kernel
theorem q203_8 : am_look 203 8 = some (.iload_n 3, 9, 3, 0, 0) := by decide +kernel
theorem q203_9 : am_look 203 9 = some (.invokevirtual 41, 12, 176, 3, 3) := by decide +kernel
theorem q203_12 : am_look 203 12 = some (.aload_n 0, 13, 0, 0, 0) := by decide +kernel
theorem q203_13 : am_look 203 13 = some (.iload_n 1, 14, 1, 0, 0) := by decide +kernel
theorem q203_14 : am_look 203 14 = some (.iload_n 2, 15, 2, 0, 0) := by decide +kernel
theorem q203_15 : am_look 203 15 = some (.invokevirtual 45, 18, 177, 3, 3) := by decide +kernel
theorem q203_18 : am_look 203 18 = some (.ireturn, 19, 0, 0, 0) := by decide +kernel
theorem zb203 : am_zb 203 = false := by decide +kernel
theorem ml203 : am_ml 203 = 4 := by decide +kernel
theorem np203 : am_np 203 + (if am_sc 203 then 0 else 1) = 4 := by decide +kernel
theorem st203 {d : Nat} {h h1 : am_H} {r : Option am_V} (p0 : Nat) (a1 : Int) (a2 : Int) (a3 : Int) (H : am_x (am_cd d) 203 (fun r2 h2 => r2 = r ∧ h2 = h1) 0 0 [some (.inr (.inr p0)), some (.inl a1), some (.inl a2), some (.inl a3)] [] h) : am_cd (d + 1) 203 [.inr (.inr p0), .inl a1, .inl a2, .inl a3] h r h1 := by
  refine ⟨⟨by rw [ml203]; simp [am_en], by rw [np203]; rfl⟩, ?_⟩
  rw [ml203]; exact H
theorem q204_0 : am_look 204 0 = some (.aload_n 0, 1, 0, 0, 0) := by decide +kernel
theorem q204_1 : am_look 204 1 = some (.getfield 20, 4, 197, 5, 0) := by decide +kernel
theorem q204_4 : am_look 204 4 = some (.iconst 0, 5, 0, 0, 0) := by decide +kernel
theorem q204_5 : am_look 204 5 = some (.invokestatic 58, 8, 90, 2, 99) := by decide +kernel
theorem q204_8 : am_look 204 8 = some (.aload_n 0, 9, 0, 0, 0) := by decide +kernel
theorem q204_9 : am_look 204 9 = some (.aload_n 0, 10, 0, 0, 0) := by decide +kernel
theorem q204_10 : am_look 204 10 = some (.getfield 29, 13, 192, 0, 0) := by decide +kernel
theorem q204_13 : am_look 204 13 = some (.invokevirtual 64, 16, 36, 1, 6) := by decide +kernel
theorem q204_16 : am_look 204 16 = some (.bipush 10, 18, 0, 0, 10) := by decide +kernel
theorem q204_18 : am_look 204 18 = some (.invokestatic 68, 21, 88, 2, 99) := by decide +kernel
theorem q204_21 : am_look 204 21 = some (.putfield 73, 24, 201, 9, 0) := by decide +kernel
theorem q204_24 : am_look 204 24 = some (.iconst 0, 25, 0, 0, 0) := by decide +kernel
theorem q204_25 : am_look 204 25 = some (.istore_n 2, 26, 2, 0, 0) := by decide +kernel
theorem q204_26 : am_look 204 26 = some (.iload_n 2, 27, 2, 0, 0) := by decide +kernel
theorem q204_27 : am_look 204 27 = some (.aload_n 0, 28, 0, 0, 0) := by decide +kernel
theorem q204_28 : am_look 204 28 = some (.getfield 73, 31, 201, 9, 0) := by decide +kernel
theorem q204_31 : am_look 204 31 = some (.if_icmp .ge 45, 34, 76, 0, 0) := by decide +kernel
theorem q204_34 : am_look 204 34 = some (.aload_n 0, 35, 0, 0, 0) := by decide +kernel
theorem q204_35 : am_look 204 35 = some (.iload_n 2, 36, 2, 0, 0) := by decide +kernel
theorem q204_36 : am_look 204 36 = some (.iload_n 1, 37, 1, 0, 0) := by decide +kernel
theorem q204_37 : am_look 204 37 = some (.invokevirtual 41, 40, 176, 3, 3) := by decide +kernel
theorem q204_40 : am_look 204 40 = some (.iconst 0, 41, 0, 0, 0) := by decide +kernel
theorem q204_41 : am_look 204 41 = some (.istore_n 3, 42, 3, 0, 0) := by decide +kernel
theorem q204_42 : am_look 204 42 = some (.iload_n 3, 43, 3, 0, 0) := by decide +kernel
theorem q204_43 : am_look 204 43 = some (.iload_n 2, 44, 2, 0, 0) := by decide +kernel
theorem q204_44 : am_look 204 44 = some (.if_icmp .ge 26, 47, 70, 0, 0) := by decide +kernel
theorem q204_47 : am_look 204 47 = some (.aload_n 0, 48, 0, 0, 0) := by decide +kernel
theorem q204_48 : am_look 204 48 = some (.getfield 17, 51, 196, 4, 0) := by decide +kernel
theorem q204_51 : am_look 204 51 = some (.iload_n 2, 52, 2, 0, 0) := by decide +kernel
theorem q204_52 : am_look 204 52 = some (.bipush 10, 54, 0, 0, 10) := by decide +kernel
theorem q204_54 : am_look 204 54 = some (.imul, 55, 0, 0, 0) := by decide +kernel
theorem q204_55 : am_look 204 55 = some (.iload_n 3, 56, 3, 0, 0) := by decide +kernel
theorem q204_56 : am_look 204 56 = some (.iadd, 57, 0, 0, 0) := by decide +kernel
theorem q204_57 : am_look 204 57 = some (.aload_n 0, 58, 0, 0, 0) := by decide +kernel
theorem q204_58 : am_look 204 58 = some (.iload_n 3, 59, 3, 0, 0) := by decide +kernel
theorem q204_59 : am_look 204 59 = some (.iload_n 2, 60, 2, 0, 0) := by decide +kernel
theorem q204_60 : am_look 204 60 = some (.invokevirtual 45, 63, 177, 3, 3) := by decide +kernel
theorem q204_63 : am_look 204 63 = some (.iastore, 64, 0, 0, 0) := by decide +kernel
theorem q204_64 : am_look 204 64 = some (.iinc 3 1, 67, 3, 0, 1) := by decide +kernel
theorem q204_67 : am_look 204 67 = some (.goto (-25), 70, 42, 0, 0) := by decide +kernel
theorem q204_70 : am_look 204 70 = some (.iinc 2 1, 73, 2, 0, 1) := by decide +kernel
theorem q204_73 : am_look 204 73 = some (.goto (-47), 76, 26, 0, 0) := by decide +kernel
theorem q204_76 : am_look 204 76 = some (.return_, 77, 0, 0, 0) := by decide +kernel
theorem zb204 : am_zb 204 = false := by decide +kernel
theorem ml204 : am_ml 204 = 4 := by decide +kernel
theorem np204 : am_np 204 + (if am_sc 204 then 0 else 1) = 2 := by decide +kernel
theorem st204 {d : Nat} {h h1 : am_H} {r : Option am_V} (p0 : Nat) (a1 : Int) (H : am_x (am_cd d) 204 (fun r2 h2 => r2 = r ∧ h2 = h1) 0 0 [some (.inr (.inr p0)), some (.inl a1), none, none] [] h) : am_cd (d + 1) 204 [.inr (.inr p0), .inl a1] h r h1 := by
  refine ⟨⟨by rw [ml204]; simp [am_en], by rw [np204]; rfl⟩, ?_⟩
  rw [ml204]; exact H
theorem q205_0 : am_look 205 0 = some (.aload_n 0, 1, 0, 0, 0) := by decide +kernel
theorem q205_1 : am_look 205 1 = some (.iconst 1, 2, 0, 0, 1) := by decide +kernel
theorem q205_2 : am_look 205 2 = some (.iload_n 1, 3, 1, 0, 0) := by decide +kernel
theorem q205_3 : am_look 205 3 = some (.ishl, 4, 0, 0, 0) := by decide +kernel
theorem q205_4 : am_look 205 4 = some (.invokevirtual 64, 7, 180, 2, 6) := by decide +kernel
theorem q205_7 : am_look 205 7 = some (.iconst 0, 8, 0, 0, 0) := by decide +kernel
theorem q205_8 : am_look 205 8 = some (.istore_n 3, 9, 3, 0, 0) := by decide +kernel
theorem q205_9 : am_look 205 9 = some (.iload_n 3, 10, 3, 0, 0) := by decide +kernel
theorem q205_10 : am_look 205 10 = some (.aload_n 0, 11, 0, 0, 0) := by decide +kernel
theorem q205_11 : am_look 205 11 = some (.getfield 27, 14, 384, 0, 0) := by decide +kernel
theorem q205_14 : am_look 205 14 = some (.if_icmp .ge 27, 17, 41, 0, 0) := by decide +kernel
theorem q205_17 : am_look 205 17 = some (.iload_n 2, 18, 2, 0, 0) := by decide +kernel
theorem q205_18 : am_look 205 18 = some (.iconst 1, 19, 0, 0, 1) := by decide +kernel
theorem q205_19 : am_look 205 19 = some (.iload_n 3, 20, 3, 0, 0) := by decide +kernel
theorem q205_20 : am_look 205 20 = some (.ishl, 21, 0, 0, 0) := by decide +kernel
theorem q205_21 : am_look 205 21 = some (.iand, 22, 0, 0, 0) := by decide +kernel
theorem q205_22 : am_look 205 22 = some (.ifCond .eq 13, 25, 35, 0, 0) := by decide +kernel
theorem q205_25 : am_look 205 25 = some (.aload_n 0, 26, 0, 0, 0) := by decide +kernel
theorem q205_26 : am_look 205 26 = some (.iload_n 3, 27, 3, 0, 0) := by decide +kernel
theorem q205_27 : am_look 205 27 = some (.invokevirtual 67, 30, 50, 2, 6) := by decide +kernel
theorem q205_30 : am_look 205 30 = some (.ifCond .ne 5, 33, 35, 0, 0) := by decide +kernel
theorem q205_33 : am_look 205 33 = some (.iconst 0, 34, 0, 0, 0) := by decide +kernel
theorem q205_34 : am_look 205 34 = some (.ireturn, 35, 0, 0, 0) := by decide +kernel
theorem q205_35 : am_look 205 35 = some (.iinc 3 1, 38, 3, 0, 1) := by decide +kernel
theorem q205_38 : am_look 205 38 = some (.goto (-29), 41, 9, 0, 0) := by decide +kernel
theorem q205_41 : am_look 205 41 = some (.iconst 1, 42, 0, 0, 1) := by decide +kernel
theorem q205_42 : am_look 205 42 = some (.ireturn, 43, 0, 0, 0) := by decide +kernel
theorem zb205 : am_zb 205 = true := by decide +kernel
theorem ml205 : am_ml 205 = 4 := by decide +kernel
theorem np205 : am_np 205 + (if am_sc 205 then 0 else 1) = 3 := by decide +kernel
theorem st205 {d : Nat} {h h1 : am_H} {r : Option am_V} (p0 : Nat) (a1 : Int) (a2 : Int) (H : am_x (am_cd d) 205 (fun r2 h2 => r2 = r ∧ h2 = h1) 0 0 [some (.inr (.inr p0)), some (.inl a1), some (.inl a2), none] [] h) : am_cd (d + 1) 205 [.inr (.inr p0), .inl a1, .inl a2] h r h1 := by
  refine ⟨⟨by rw [ml205]; simp [am_en], by rw [np205]; rfl⟩, ?_⟩
  rw [ml205]; exact H
theorem q206_0 : am_look 206 0 = some (.aload_n 0, 1, 0, 0, 0) := by decide +kernel
theorem q206_1 : am_look 206 1 = some (.invokevirtual 38, 4, 181, 1, 8) := by decide +kernel
theorem q206_4 : am_look 206 4 = some (.aload_n 0, 5, 0, 0, 0) := by decide +kernel
theorem q206_5 : am_look 206 5 = some (.getfield 20, 8, 512, 0, 0) := by decide +kernel
theorem q206_8 : am_look 206 8 = some (.invokevirtual 41, 11, 38, 1, 6) := by decide +kernel
theorem q206_11 : am_look 206 11 = some (.istore_n 2, 12, 2, 0, 0) := by decide +kernel
theorem q206_12 : am_look 206 12 = some (.iconst 0, 13, 0, 0, 0) := by decide +kernel
theorem q206_13 : am_look 206 13 = some (.istore_n 3, 14, 3, 0, 0) := by decide +kernel
theorem q206_14 : am_look 206 14 = some (.iload_n 3, 15, 3, 0, 0) := by decide +kernel
theorem q206_15 : am_look 206 15 = some (.iconst 3, 16, 0, 0, 3) := by decide +kernel
theorem q206_16 : am_look 206 16 = some (.if_icmp .gt 47, 19, 63, 0, 0) := by decide +kernel
theorem q206_19 : am_look 206 19 = some (.iconst 0, 20, 0, 0, 0) := by decide +kernel
theorem q206_20 : am_look 206 20 = some (.istore 4, 22, 4, 0, 0) := by decide +kernel
theorem q206_22 : am_look 206 22 = some (.iload 4, 24, 4, 0, 0) := by decide +kernel
theorem q206_24 : am_look 206 24 = some (.iload_n 2, 25, 2, 0, 0) := by decide +kernel
theorem q206_25 : am_look 206 25 = some (.if_icmp .gt 32, 28, 57, 0, 0) := by decide +kernel
theorem q206_28 : am_look 206 28 = some (.iload 4, 30, 4, 0, 0) := by decide +kernel
theorem q206_30 : am_look 206 30 = some (.invokestatic 44, 33, 86, 1, 99) := by decide +kernel
theorem q206_33 : am_look 206 33 = some (.iload_n 3, 34, 3, 0, 0) := by decide +kernel
theorem q206_34 : am_look 206 34 = some (.if_icmp .ne 17, 37, 51, 0, 0) := by decide +kernel
theorem q206_37 : am_look 206 37 = some (.aload_n 0, 38, 0, 0, 0) := by decide +kernel
theorem q206_38 : am_look 206 38 = some (.iload 4, 40, 4, 0, 0) := by decide +kernel
theorem q206_40 : am_look 206 40 = some (.iload_n 1, 41, 1, 0, 0) := by decide +kernel
theorem q206_41 : am_look 206 41 = some (.invokevirtual 49, 44, 148, 3, 8) := by decide +kernel
theorem q206_44 : am_look 206 44 = some (.iload_n 2, 45, 2, 0, 0) := by decide +kernel
theorem q206_45 : am_look 206 45 = some (.if_icmp .ne 6, 48, 51, 0, 0) := by decide +kernel
theorem q206_48 : am_look 206 48 = some (.iload 4, 50, 4, 0, 0) := by decide +kernel
theorem q206_50 : am_look 206 50 = some (.ireturn, 51, 0, 0, 0) := by decide +kernel
theorem q206_51 : am_look 206 51 = some (.iinc 4 1, 54, 4, 0, 1) := by decide +kernel
theorem q206_54 : am_look 206 54 = some (.goto (-32), 57, 22, 0, 0) := by decide +kernel
theorem q206_57 : am_look 206 57 = some (.iinc 3 1, 60, 3, 0, 1) := by decide +kernel
theorem q206_60 : am_look 206 60 = some (.goto (-46), 63, 14, 0, 0) := by decide +kernel
theorem q206_63 : am_look 206 63 = some (.iconst (-1), 64, 0, 0, (-1)) := by decide +kernel
theorem q206_64 : am_look 206 64 = some (.ireturn, 65, 0, 0, 0) := by decide +kernel
theorem zb206 : am_zb 206 = false := by decide +kernel
theorem ml206 : am_ml 206 = 5 := by decide +kernel
theorem np206 : am_np 206 + (if am_sc 206 then 0 else 1) = 2 := by decide +kernel
theorem st206 {d : Nat} {h h1 : am_H} {r : Option am_V} (p0 : Nat) (a1 : Int) (H : am_x (am_cd d) 206 (fun r2 h2 => r2 = r ∧ h2 = h1) 0 0 [some (.inr (.inr p0)), some (.inl a1), none, none, none] [] h) : am_cd (d + 1) 206 [.inr (.inr p0), .inl a1] h r h1 := by
  refine ⟨⟨by rw [ml206]; simp [am_en], by rw [np206]; rfl⟩, ?_⟩
  rw [ml206]; exact H
theorem q207_0 : am_look 207 0 = some (.aload_n 0, 1, 0, 0, 0) := by decide +kernel
theorem q207_1 : am_look 207 1 = some (.iconst 0, 2, 0, 0, 0) := by decide +kernel
theorem q207_2 : am_look 207 2 = some (.putfield 36, 5, 641, 1, 0) := by decide +kernel
theorem q207_5 : am_look 207 5 = some (.iconst 0, 6, 0, 0, 0) := by decide +kernel
theorem q207_6 : am_look 207 6 = some (.istore_n 3, 7, 3, 0, 0) := by decide +kernel
theorem q207_7 : am_look 207 7 = some (.iload_n 3, 8, 3, 0, 0) := by decide +kernel
theorem q207_8 : am_look 207 8 = some (.aload_n 0, 9, 0, 0, 0) := by decide +kernel
theorem q207_9 : am_look 207 9 = some (.getfield 24, 12, 640, 0, 0) := by decide +kernel
theorem q207_12 : am_look 207 12 = some (.invokevirtual 46, 15, 36, 1, 6) := by decide +kernel
theorem q207_15 : am_look 207 15 = some (.if_icmp .ge 46, 18, 61, 0, 0) := by decide +kernel
theorem q207_18 : am_look 207 18 = some (.aload_n 0, 19, 0, 0, 0) := by decide +kernel
theorem q207_19 : am_look 207 19 = some (.getfield 36, 22, 641, 1, 0) := by decide +kernel
theorem q207_22 : am_look 207 22 = some (.bipush 7, 24, 0, 0, 7) := by decide +kernel
theorem q207_24 : am_look 207 24 = some (.if_icmp .ge 37, 27, 61, 0, 0) := by decide +kernel
theorem q207_27 : am_look 207 27 = some (.iload_n 2, 28, 2, 0, 0) := by decide +kernel
theorem q207_28 : am_look 207 28 = some (.iconst 1, 29, 0, 0, 1) := by decide +kernel
theorem q207_29 : am_look 207 29 = some (.iload_n 3, 30, 3, 0, 0) := by decide +kernel
theorem q207_30 : am_look 207 30 = some (.ishl, 31, 0, 0, 0) := by decide +kernel
theorem q207_31 : am_look 207 31 = some (.iand, 32, 0, 0, 0) := by decide +kernel
theorem q207_32 : am_look 207 32 = some (.ifCond .eq 23, 35, 55, 0, 0) := by decide +kernel
theorem q207_35 : am_look 207 35 = some (.aload_n 0, 36, 0, 0, 0) := by decide +kernel
theorem q207_36 : am_look 207 36 = some (.getfield 11, 39, 642, 2, 0) := by decide +kernel
theorem q207_39 : am_look 207 39 = some (.aload_n 0, 40, 0, 0, 0) := by decide +kernel
theorem q207_40 : am_look 207 40 = some (.getfield 36, 43, 641, 1, 0) := by decide +kernel
theorem q207_43 : am_look 207 43 = some (.iload_n 3, 44, 3, 0, 0) := by decide +kernel
theorem q207_44 : am_look 207 44 = some (.iastore, 45, 0, 0, 0) := by decide +kernel
theorem q207_45 : am_look 207 45 = some (.aload_n 0, 46, 0, 0, 0) := by decide +kernel
theorem q207_46 : am_look 207 46 = some (.dup, 47, 0, 0, 0) := by decide +kernel
theorem q207_47 : am_look 207 47 = some (.getfield 36, 50, 641, 1, 0) := by decide +kernel
theorem q207_50 : am_look 207 50 = some (.iconst 1, 51, 0, 0, 1) := by decide +kernel
theorem q207_51 : am_look 207 51 = some (.iadd, 52, 0, 0, 0) := by decide +kernel
theorem q207_52 : am_look 207 52 = some (.putfield 36, 55, 641, 1, 0) := by decide +kernel
theorem q207_55 : am_look 207 55 = some (.iinc 3 1, 58, 3, 0, 1) := by decide +kernel
theorem q207_58 : am_look 207 58 = some (.goto (-51), 61, 7, 0, 0) := by decide +kernel
theorem q207_61 : am_look 207 61 = some (.aload_n 0, 62, 0, 0, 0) := by decide +kernel
theorem q207_62 : am_look 207 62 = some (.getfield 11, 65, 642, 2, 0) := by decide +kernel
theorem q207_65 : am_look 207 65 = some (.aload_n 0, 66, 0, 0, 0) := by decide +kernel
theorem q207_66 : am_look 207 66 = some (.getfield 36, 69, 641, 1, 0) := by decide +kernel
theorem q207_69 : am_look 207 69 = some (.iload_n 1, 70, 1, 0, 0) := by decide +kernel
theorem q207_70 : am_look 207 70 = some (.iastore, 71, 0, 0, 0) := by decide +kernel
theorem q207_71 : am_look 207 71 = some (.iconst 0, 72, 0, 0, 0) := by decide +kernel
theorem q207_72 : am_look 207 72 = some (.istore_n 3, 73, 3, 0, 0) := by decide +kernel
theorem q207_73 : am_look 207 73 = some (.iload_n 3, 74, 3, 0, 0) := by decide +kernel
theorem q207_74 : am_look 207 74 = some (.aload_n 0, 75, 0, 0, 0) := by decide +kernel
theorem q207_75 : am_look 207 75 = some (.getfield 36, 78, 641, 1, 0) := by decide +kernel
theorem q207_78 : am_look 207 78 = some (.if_icmp .gt 68, 81, 146, 0, 0) := by decide +kernel
theorem q207_81 : am_look 207 81 = some (.aload_n 0, 82, 0, 0, 0) := by decide +kernel
theorem q207_82 : am_look 207 82 = some (.getfield 24, 85, 640, 0, 0) := by decide +kernel
theorem q207_85 : am_look 207 85 = some (.iconst 1, 86, 0, 0, 1) := by decide +kernel
theorem q207_86 : am_look 207 86 = some (.aload_n 0, 87, 0, 0, 0) := by decide +kernel
theorem q207_87 : am_look 207 87 = some (.getfield 11, 90, 642, 2, 0) := by decide +kernel
theorem q207_90 : am_look 207 90 = some (.iload_n 3, 91, 3, 0, 0) := by decide +kernel
theorem q207_91 : am_look 207 91 = some (.iaload, 92, 0, 0, 0) := by decide +kernel
theorem q207_92 : am_look 207 92 = some (.ishl, 93, 0, 0, 0) := by decide +kernel
theorem q207_93 : am_look 207 93 = some (.invokevirtual 52, 96, 180, 2, 6) := by decide +kernel
theorem q207_96 : am_look 207 96 = some (.iconst 0, 97, 0, 0, 0) := by decide +kernel
theorem q207_97 : am_look 207 97 = some (.istore 4, 99, 4, 0, 0) := by decide +kernel
theorem q207_99 : am_look 207 99 = some (.iload 4, 101, 4, 0, 0) := by decide +kernel
theorem q207_101 : am_look 207 101 = some (.aload_n 0, 102, 0, 0, 0) := by decide +kernel
theorem q207_102 : am_look 207 102 = some (.getfield 36, 105, 641, 1, 0) := by decide +kernel
theorem q207_105 : am_look 207 105 = some (.if_icmp .gt 35, 108, 140, 0, 0) := by decide +kernel
theorem q207_108 : am_look 207 108 = some (.aload_n 0, 109, 0, 0, 0) := by decide +kernel
theorem q207_109 : am_look 207 109 = some (.getfield 15, 112, 643, 3, 0) := by decide +kernel
theorem q207_112 : am_look 207 112 = some (.iload_n 3, 113, 3, 0, 0) := by decide +kernel
theorem q207_113 : am_look 207 113 = some (.bipush 8, 115, 0, 0, 8) := by decide +kernel
theorem q207_115 : am_look 207 115 = some (.imul, 116, 0, 0, 0) := by decide +kernel
theorem q207_116 : am_look 207 116 = some (.iload 4, 118, 4, 0, 0) := by decide +kernel
theorem q207_118 : am_look 207 118 = some (.iadd, 119, 0, 0, 0) := by decide +kernel
theorem q207_119 : am_look 207 119 = some (.aload_n 0, 120, 0, 0, 0) := by decide +kernel
theorem q207_120 : am_look 207 120 = some (.getfield 24, 123, 640, 0, 0) := by decide +kernel
theorem q207_123 : am_look 207 123 = some (.aload_n 0, 124, 0, 0, 0) := by decide +kernel
theorem q207_124 : am_look 207 124 = some (.getfield 11, 127, 642, 2, 0) := by decide +kernel
theorem q207_127 : am_look 207 127 = some (.iload 4, 129, 4, 0, 0) := by decide +kernel
theorem q207_129 : am_look 207 129 = some (.iaload, 130, 0, 0, 0) := by decide +kernel
theorem q207_130 : am_look 207 130 = some (.invokevirtual 56, 133, 49, 2, 6) := by decide +kernel
theorem q207_133 : am_look 207 133 = some (.iastore, 134, 0, 0, 0) := by decide +kernel
theorem q207_134 : am_look 207 134 = some (.iinc 4 1, 137, 4, 0, 1) := by decide +kernel
theorem q207_137 : am_look 207 137 = some (.goto (-38), 140, 99, 0, 0) := by decide +kernel
theorem q207_140 : am_look 207 140 = some (.iinc 3 1, 143, 3, 0, 1) := by decide +kernel
theorem q207_143 : am_look 207 143 = some (.goto (-70), 146, 73, 0, 0) := by decide +kernel
theorem q207_146 : am_look 207 146 = some (.return_, 147, 0, 0, 0) := by decide +kernel
theorem zb207 : am_zb 207 = false := by decide +kernel
theorem ml207 : am_ml 207 = 5 := by decide +kernel
theorem np207 : am_np 207 + (if am_sc 207 then 0 else 1) = 3 := by decide +kernel
theorem st207 {d : Nat} {h h1 : am_H} {r : Option am_V} (p0 : Nat) (a1 : Int) (a2 : Int) (H : am_x (am_cd d) 207 (fun r2 h2 => r2 = r ∧ h2 = h1) 0 0 [some (.inr (.inr p0)), some (.inl a1), some (.inl a2), none, none] [] h) : am_cd (d + 1) 207 [.inr (.inr p0), .inl a1, .inl a2] h r h1 := by
  refine ⟨⟨by rw [ml207]; simp [am_en], by rw [np207]; rfl⟩, ?_⟩
  rw [ml207]; exact H
theorem q208_0 : am_look 208 0 = some (.aload_n 0, 1, 0, 0, 0) := by decide +kernel
theorem q208_1 : am_look 208 1 = some (.getfield 10, 4, 704, 0, 0) := by decide +kernel
theorem q208_4 : am_look 208 4 = some (.iload_n 1, 5, 1, 0, 0) := by decide +kernel
theorem q208_5 : am_look 208 5 = some (.invokevirtual 118, 8, 37, 2, 6) := by decide +kernel
theorem q208_8 : am_look 208 8 = some (.ifCond .eq 14, 11, 22, 0, 0) := by decide +kernel
theorem q208_11 : am_look 208 11 = some (.aload_n 0, 12, 0, 0, 0) := by decide +kernel
theorem q208_12 : am_look 208 12 = some (.getfield 10, 15, 704, 0, 0) := by decide +kernel
theorem q208_15 : am_look 208 15 = some (.iload_n 2, 16, 2, 0, 0) := by decide +kernel
theorem q208_16 : am_look 208 16 = some (.invokevirtual 118, 19, 37, 2, 6) := by decide +kernel
theorem q208_19 : am_look 208 19 = some (.ifCond .ne 10, 22, 29, 0, 0) := by decide +kernel
theorem q208_22 : am_look 208 22 = some (.aload_n 0, 23, 0, 0, 0) := by decide +kernel
theorem q208_23 : am_look 208 23 = some (.ldc 100, 25, 0, 0, (-100001)) := by decide +kernel
theorem q208_25 : am_look 208 25 = some (.invokevirtual 101, 28, 70, 2, 11) := by decide +kernel
theorem q208_28 : am_look 208 28 = some (.ireturn, 29, 0, 0, 0) := by decide +kernel
theorem q208_29 : am_look 208 29 = some (.aload_n 0, 30, 0, 0, 0) := by decide +kernel
theorem q208_30 : am_look 208 30 = some (.getfield 10, 33, 704, 0, 0) := by decide +kernel
theorem q208_33 : am_look 208 33 = some (.iconst 1, 34, 0, 0, 1) := by decide +kernel
theorem q208_34 : am_look 208 34 = some (.iload_n 1, 35, 1, 0, 0) := by decide +kernel
theorem q208_35 : am_look 208 35 = some (.ishl, 36, 0, 0, 0) := by decide +kernel
theorem q208_36 : am_look 208 36 = some (.invokevirtual 132, 39, 180, 2, 6) := by decide +kernel
theorem q208_39 : am_look 208 39 = some (.aload_n 0, 40, 0, 0, 0) := by decide +kernel
theorem q208_40 : am_look 208 40 = some (.getfield 10, 43, 704, 0, 0) := by decide +kernel
theorem q208_43 : am_look 208 43 = some (.iload_n 2, 44, 2, 0, 0) := by decide +kernel
theorem q208_44 : am_look 208 44 = some (.invokevirtual 136, 47, 50, 2, 6) := by decide +kernel
theorem q208_47 : am_look 208 47 = some (.ifCond .eq 14, 50, 61, 0, 0) := by decide +kernel
theorem q208_50 : am_look 208 50 = some (.aload_n 0, 51, 0, 0, 0) := by decide +kernel
theorem q208_51 : am_look 208 51 = some (.getfield 10, 54, 704, 0, 0) := by decide +kernel
theorem q208_54 : am_look 208 54 = some (.iload_n 2, 55, 2, 0, 0) := by decide +kernel
theorem q208_55 : am_look 208 55 = some (.invokevirtual 139, 58, 49, 2, 6) := by decide +kernel
theorem q208_58 : am_look 208 58 = some (.goto 9, 61, 67, 0, 0) := by decide +kernel
theorem q208_61 : am_look 208 61 = some (.aload_n 0, 62, 0, 0, 0) := by decide +kernel
theorem q208_62 : am_look 208 62 = some (.ldc 142, 64, 0, 0, (-100008)) := by decide +kernel
theorem q208_64 : am_look 208 64 = some (.invokevirtual 101, 67, 70, 2, 11) := by decide +kernel
theorem q208_67 : am_look 208 67 = some (.ireturn, 68, 0, 0, 0) := by decide +kernel
theorem zb208 : am_zb 208 = false := by decide +kernel
theorem ml208 : am_ml 208 = 3 := by decide +kernel
theorem np208 : am_np 208 + (if am_sc 208 then 0 else 1) = 3 := by decide +kernel
theorem st208 {d : Nat} {h h1 : am_H} {r : Option am_V} (p0 : Nat) (a1 : Int) (a2 : Int) (H : am_x (am_cd d) 208 (fun r2 h2 => r2 = r ∧ h2 = h1) 0 0 [some (.inr (.inr p0)), some (.inl a1), some (.inl a2)] [] h) : am_cd (d + 1) 208 [.inr (.inr p0), .inl a1, .inl a2] h r h1 := by
  refine ⟨⟨by rw [ml208]; simp [am_en], by rw [np208]; rfl⟩, ?_⟩
  rw [ml208]; exact H
theorem q209_0 : am_look 209 0 = some (.aload_n 0, 1, 0, 0, 0) := by decide +kernel
theorem q209_1 : am_look 209 1 = some (.getfield 26, 4, 706, 2, 0) := by decide +kernel
theorem q209_4 : am_look 209 4 = some (.iload_n 1, 5, 1, 0, 0) := by decide +kernel
theorem q209_5 : am_look 209 5 = some (.lload_n 2, 6, 2, 0, 0) := by decide +kernel
theorem q209_6 : am_look 209 6 = some (.invokevirtual 167, 9, 27, 3, 4) := by decide +kernel
theorem q209_9 : am_look 209 9 = some (.ifCond .ne 10, 12, 19, 0, 0) := by decide +kernel
theorem q209_12 : am_look 209 12 = some (.aload_n 0, 13, 0, 0, 0) := by decide +kernel
theorem q209_13 : am_look 209 13 = some (.ldc 100, 15, 0, 0, (-100001)) := by decide +kernel
theorem q209_15 : am_look 209 15 = some (.invokevirtual 101, 18, 70, 2, 11) := by decide +kernel
theorem q209_18 : am_look 209 18 = some (.ireturn, 19, 0, 0, 0) := by decide +kernel
theorem q209_19 : am_look 209 19 = some (.aload_n 0, 20, 0, 0, 0) := by decide +kernel
theorem q209_20 : am_look 209 20 = some (.getfield 26, 23, 706, 2, 0) := by decide +kernel
theorem q209_23 : am_look 209 23 = some (.invokevirtual 171, 26, 178, 1, 4) := by decide +kernel
theorem q209_26 : am_look 209 26 = some (.istore 4, 28, 4, 0, 0) := by decide +kernel
theorem q209_28 : am_look 209 28 = some (.iload 4, 30, 4, 0, 0) := by decide +kernel
theorem q209_30 : am_look 209 30 = some (.iconst (-1), 31, 0, 0, (-1)) := by decide +kernel
theorem q209_31 : am_look 209 31 = some (.if_icmp .ne 22, 34, 53, 0, 0) := by decide +kernel
theorem q209_34 : am_look 209 34 = some (.aload_n 0, 35, 0, 0, 0) := by decide +kernel
theorem q209_35 : am_look 209 35 = some (.getfield 26, 38, 706, 2, 0) := by decide +kernel
theorem q209_38 : am_look 209 38 = some (.invokevirtual 174, 41, 23, 1, 4) := by decide +kernel
theorem q209_41 : am_look 209 41 = some (.bipush 30, 43, 0, 0, 30) := by decide +kernel
theorem q209_43 : am_look 209 43 = some (.if_icmp .lt 10, 46, 53, 0, 0) := by decide +kernel
theorem q209_46 : am_look 209 46 = some (.aload_n 0, 47, 0, 0, 0) := by decide +kernel
theorem q209_47 : am_look 209 47 = some (.ldc 109, 49, 0, 0, (-100005)) := by decide +kernel
theorem q209_49 : am_look 209 49 = some (.invokevirtual 101, 52, 70, 2, 11) := by decide +kernel
theorem q209_52 : am_look 209 52 = some (.ireturn, 53, 0, 0, 0) := by decide +kernel
theorem q209_53 : am_look 209 53 = some (.aload_n 0, 54, 0, 0, 0) := by decide +kernel
theorem q209_54 : am_look 209 54 = some (.getfield 92, 57, 714, 10, 0) := by decide +kernel
theorem q209_57 : am_look 209 57 = some (.iconst 3, 58, 0, 0, 3) := by decide +kernel
theorem q209_58 : am_look 209 58 = some (.iconst 0, 59, 0, 0, 0) := by decide +kernel
theorem q209_59 : am_look 209 59 = some (.iload 4, 61, 4, 0, 0) := by decide +kernel
theorem q209_61 : am_look 209 61 = some (.iconst (-1), 62, 0, 0, (-1)) := by decide +kernel
theorem q209_62 : am_look 209 62 = some (.if_icmp .ne 7, 65, 69, 0, 0) := by decide +kernel
theorem q209_65 : am_look 209 65 = some (.iconst 1, 66, 0, 0, 1) := by decide +kernel
theorem q209_66 : am_look 209 66 = some (.goto 4, 69, 70, 0, 0) := by decide +kernel
theorem q209_69 : am_look 209 69 = some (.iconst 0, 70, 0, 0, 0) := by decide +kernel
theorem q209_70 : am_look 209 70 = some (.invokevirtual 110, 73, 97, 4, 5) := by decide +kernel
theorem q209_73 : am_look 209 73 = some (.iload 4, 75, 4, 0, 0) := by decide +kernel
theorem q209_75 : am_look 209 75 = some (.iconst (-1), 76, 0, 0, (-1)) := by decide +kernel
theorem q209_76 : am_look 209 76 = some (.if_icmp .ne 13, 79, 89, 0, 0) := by decide +kernel
theorem q209_79 : am_look 209 79 = some (.aload_n 0, 80, 0, 0, 0) := by decide +kernel
theorem q209_80 : am_look 209 80 = some (.getfield 26, 83, 706, 2, 0) := by decide +kernel
theorem q209_83 : am_look 209 83 = some (.invokevirtual 175, 86, 142, 1, 4) := by decide +kernel
theorem q209_86 : am_look 209 86 = some (.goto 5, 89, 91, 0, 0) := by decide +kernel
theorem q209_89 : am_look 209 89 = some (.iload 4, 91, 4, 0, 0) := by decide +kernel
theorem q209_91 : am_look 209 91 = some (.ireturn, 92, 0, 0, 0) := by decide +kernel
theorem zb209 : am_zb 209 = false := by decide +kernel
theorem ml209 : am_ml 209 = 5 := by decide +kernel
theorem np209 : am_np 209 + (if am_sc 209 then 0 else 1) = 3 := by decide +kernel
theorem st209 {d : Nat} {h h1 : am_H} {r : Option am_V} (p0 : Nat) (a1 : Int) (a2 : Int64) (H : am_x (am_cd d) 209 (fun r2 h2 => r2 = r ∧ h2 = h1) 0 0 [some (.inr (.inr p0)), some (.inl a1), some (.inr (.inl a2)), none, none] [] h) : am_cd (d + 1) 209 [.inr (.inr p0), .inl a1, .inr (.inl a2)] h r h1 := by
  refine ⟨⟨by rw [ml209]; simp [am_en], by rw [np209]; rfl⟩, ?_⟩
  rw [ml209]; exact H
theorem q210_0 : am_look 210 0 = some (.iload_n 1, 1, 1, 0, 0) := by decide +kernel
theorem q210_1 : am_look 210 1 = some (.invokestatic 221, 4, 60, 1, 99) := by decide +kernel
theorem q210_4 : am_look 210 4 = some (.ifCond .ne 10, 7, 14, 0, 0) := by decide +kernel
theorem q210_7 : am_look 210 7 = some (.aload_n 0, 8, 0, 0, 0) := by decide +kernel
theorem q210_8 : am_look 210 8 = some (.ldc 100, 10, 0, 0, (-100001)) := by decide +kernel
theorem q210_10 : am_look 210 10 = some (.invokevirtual 101, 13, 70, 2, 11) := by decide +kernel
theorem q210_13 : am_look 210 13 = some (.ireturn, 14, 0, 0, 0) := by decide +kernel
theorem q210_14 : am_look 210 14 = some (.aload_n 0, 15, 0, 0, 0) := by decide +kernel
theorem q210_15 : am_look 210 15 = some (.getfield 44, 18, 708, 4, 0) := by decide +kernel
theorem q210_18 : am_look 210 18 = some (.iload_n 1, 19, 1, 0, 0) := by decide +kernel
theorem q210_19 : am_look 210 19 = some (.invokevirtual 224, 22, 182, 2, 9) := by decide +kernel
theorem q210_22 : am_look 210 22 = some (.ireturn, 23, 0, 0, 0) := by decide +kernel
theorem zb210 : am_zb 210 = false := by decide +kernel
theorem ml210 : am_ml 210 = 2 := by decide +kernel
theorem np210 : am_np 210 + (if am_sc 210 then 0 else 1) = 2 := by decide +kernel
theorem st210 {d : Nat} {h h1 : am_H} {r : Option am_V} (p0 : Nat) (a1 : Int) (H : am_x (am_cd d) 210 (fun r2 h2 => r2 = r ∧ h2 = h1) 0 0 [some (.inr (.inr p0)), some (.inl a1)] [] h) : am_cd (d + 1) 210 [.inr (.inr p0), .inl a1] h r h1 := by
  refine ⟨⟨by rw [ml210]; simp [am_en], by rw [np210]; rfl⟩, ?_⟩
  rw [ml210]; exact H
theorem q211_0 : am_look 211 0 = some (.aload_n 0, 1, 0, 0, 0) := by decide +kernel
theorem q211_1 : am_look 211 1 = some (.getfield 10, 4, 704, 0, 0) := by decide +kernel
theorem q211_4 : am_look 211 4 = some (.iload_n 1, 5, 1, 0, 0) := by decide +kernel
theorem q211_5 : am_look 211 5 = some (.invokevirtual 118, 8, 37, 2, 6) := by decide +kernel
theorem q211_8 : am_look 211 8 = some (.ifCond .eq 21, 11, 29, 0, 0) := by decide +kernel
theorem q211_11 : am_look 211 11 = some (.iload_n 2, 12, 2, 0, 0) := by decide +kernel
theorem q211_12 : am_look 211 12 = some (.invokestatic 187, 15, 72, 1, 99) := by decide +kernel
theorem q211_15 : am_look 211 15 = some (.ifCond .eq 14, 18, 29, 0, 0) := by decide +kernel
theorem q211_18 : am_look 211 18 = some (.aload_n 0, 19, 0, 0, 0) := by decide +kernel
theorem q211_19 : am_look 211 19 = some (.getfield 26, 22, 706, 2, 0) := by decide +kernel
theorem q211_22 : am_look 211 22 = some (.iload_n 3, 23, 3, 0, 0) := by decide +kernel
theorem q211_23 : am_look 211 23 = some (.invokevirtual 178, 26, 24, 2, 4) := by decide +kernel
theorem q211_26 : am_look 211 26 = some (.ifCond .ne 10, 29, 36, 0, 0) := by decide +kernel
theorem q211_29 : am_look 211 29 = some (.aload_n 0, 30, 0, 0, 0) := by decide +kernel
theorem q211_30 : am_look 211 30 = some (.ldc 100, 32, 0, 0, (-100001)) := by decide +kernel
theorem q211_32 : am_look 211 32 = some (.invokevirtual 101, 35, 70, 2, 11) := by decide +kernel
theorem q211_35 : am_look 211 35 = some (.ireturn, 36, 0, 0, 0) := by decide +kernel
theorem q211_36 : am_look 211 36 = some (.aload_n 0, 37, 0, 0, 0) := by decide +kernel
theorem q211_37 : am_look 211 37 = some (.getfield 35, 40, 707, 3, 0) := by decide +kernel
theorem q211_40 : am_look 211 40 = some (.iload_n 1, 41, 1, 0, 0) := by decide +kernel
theorem q211_41 : am_look 211 41 = some (.iload_n 2, 42, 2, 0, 0) := by decide +kernel
theorem q211_42 : am_look 211 42 = some (.aload_n 0, 43, 0, 0, 0) := by decide +kernel
theorem q211_43 : am_look 211 43 = some (.getfield 146, 46, 716, 12, 0) := by decide +kernel
theorem q211_46 : am_look 211 46 = some (.invokevirtual 207, 49, 139, 4, 0) := by decide +kernel
theorem q211_49 : am_look 211 49 = some (.istore 4, 51, 4, 0, 0) := by decide +kernel
theorem q211_51 : am_look 211 51 = some (.iload 4, 53, 4, 0, 0) := by decide +kernel
theorem q211_53 : am_look 211 53 = some (.iconst (-1), 54, 0, 0, (-1)) := by decide +kernel
theorem q211_54 : am_look 211 54 = some (.if_icmp .ne 10, 57, 64, 0, 0) := by decide +kernel
theorem q211_57 : am_look 211 57 = some (.aload_n 0, 58, 0, 0, 0) := by decide +kernel
theorem q211_58 : am_look 211 58 = some (.ldc 236, 60, 0, 0, (-100002)) := by decide +kernel
theorem q211_60 : am_look 211 60 = some (.invokevirtual 101, 63, 70, 2, 11) := by decide +kernel
theorem q211_63 : am_look 211 63 = some (.ireturn, 64, 0, 0, 0) := by decide +kernel
theorem q211_64 : am_look 211 64 = some (.iconst 0, 65, 0, 0, 0) := by decide +kernel
theorem q211_65 : am_look 211 65 = some (.istore 5, 67, 5, 0, 0) := by decide +kernel
theorem q211_67 : am_look 211 67 = some (.iload 5, 69, 5, 0, 0) := by decide +kernel
theorem q211_69 : am_look 211 69 = some (.iconst 4, 70, 0, 0, 4) := by decide +kernel
theorem q211_70 : am_look 211 70 = some (.if_icmp .ge 27, 73, 97, 0, 0) := by decide +kernel
theorem q211_73 : am_look 211 73 = some (.aload_n 0, 74, 0, 0, 0) := by decide +kernel
theorem q211_74 : am_look 211 74 = some (.getfield 44, 77, 708, 4, 0) := by decide +kernel
theorem q211_77 : am_look 211 77 = some (.iload_n 3, 78, 3, 0, 0) := by decide +kernel
theorem q211_78 : am_look 211 78 = some (.iload 5, 80, 5, 0, 0) := by decide +kernel
theorem q211_80 : am_look 211 80 = some (.invokevirtual 237, 83, 183, 3, 9) := by decide +kernel
theorem q211_83 : am_look 211 83 = some (.iload 4, 85, 4, 0, 0) := by decide +kernel
theorem q211_85 : am_look 211 85 = some (.if_icmp .ne 6, 88, 91, 0, 0) := by decide +kernel
theorem q211_88 : am_look 211 88 = some (.iload 5, 90, 5, 0, 0) := by decide +kernel
theorem q211_90 : am_look 211 90 = some (.ireturn, 91, 0, 0, 0) := by decide +kernel
theorem q211_91 : am_look 211 91 = some (.iinc 5 1, 94, 5, 0, 1) := by decide +kernel
theorem q211_94 : am_look 211 94 = some (.goto (-27), 97, 67, 0, 0) := by decide +kernel
theorem q211_97 : am_look 211 97 = some (.aload_n 0, 98, 0, 0, 0) := by decide +kernel
theorem q211_98 : am_look 211 98 = some (.ldc 210, 100, 0, 0, (-100006)) := by decide +kernel
theorem q211_100 : am_look 211 100 = some (.invokevirtual 101, 103, 70, 2, 11) := by decide +kernel
theorem q211_103 : am_look 211 103 = some (.ireturn, 104, 0, 0, 0) := by decide +kernel
theorem zb211 : am_zb 211 = false := by decide +kernel
theorem ml211 : am_ml 211 = 6 := by decide +kernel
theorem np211 : am_np 211 + (if am_sc 211 then 0 else 1) = 4 := by decide +kernel
theorem st211 {d : Nat} {h h1 : am_H} {r : Option am_V} (p0 : Nat) (a1 : Int) (a2 : Int) (a3 : Int) (H : am_x (am_cd d) 211 (fun r2 h2 => r2 = r ∧ h2 = h1) 0 0 [some (.inr (.inr p0)), some (.inl a1), some (.inl a2), some (.inl a3), none, none] [] h) : am_cd (d + 1) 211 [.inr (.inr p0), .inl a1, .inl a2, .inl a3] h r h1 := by
  refine ⟨⟨by rw [ml211]; simp [am_en], by rw [np211]; rfl⟩, ?_⟩
  rw [ml211]; exact H
theorem q212_0 : am_look 212 0 = some (.iload_n 1, 1, 1, 0, 0) := by decide +kernel
theorem q212_1 : am_look 212 1 = some (.invokestatic 221, 4, 60, 1, 99) := by decide +kernel
theorem q212_4 : am_look 212 4 = some (.ifCond .eq 21, 7, 25, 0, 0) := by decide +kernel
theorem q212_7 : am_look 212 7 = some (.iload_n 2, 8, 2, 0, 0) := by decide +kernel
theorem q212_8 : am_look 212 8 = some (.invokestatic 187, 11, 72, 1, 99) := by decide +kernel
theorem q212_11 : am_look 212 11 = some (.ifCond .eq 14, 14, 25, 0, 0) := by decide +kernel
theorem q212_14 : am_look 212 14 = some (.aload_n 0, 15, 0, 0, 0) := by decide +kernel
theorem q212_15 : am_look 212 15 = some (.getfield 26, 18, 706, 2, 0) := by decide +kernel
theorem q212_18 : am_look 212 18 = some (.iload_n 3, 19, 3, 0, 0) := by decide +kernel
theorem q212_19 : am_look 212 19 = some (.invokevirtual 178, 22, 24, 2, 4) := by decide +kernel
theorem q212_22 : am_look 212 22 = some (.ifCond .ne 10, 25, 32, 0, 0) := by decide +kernel
theorem q212_25 : am_look 212 25 = some (.aload_n 0, 26, 0, 0, 0) := by decide +kernel
theorem q212_26 : am_look 212 26 = some (.ldc 100, 28, 0, 0, (-100001)) := by decide +kernel
theorem q212_28 : am_look 212 28 = some (.invokevirtual 101, 31, 70, 2, 11) := by decide +kernel
theorem q212_31 : am_look 212 31 = some (.ireturn, 32, 0, 0, 0) := by decide +kernel
theorem q212_32 : am_look 212 32 = some (.aload_n 0, 33, 0, 0, 0) := by decide +kernel
theorem q212_33 : am_look 212 33 = some (.getfield 44, 36, 708, 4, 0) := by decide +kernel
theorem q212_36 : am_look 212 36 = some (.iload_n 3, 37, 3, 0, 0) := by decide +kernel
theorem q212_37 : am_look 212 37 = some (.iload_n 1, 38, 1, 0, 0) := by decide +kernel
theorem q212_38 : am_look 212 38 = some (.invokevirtual 237, 41, 183, 3, 9) := by decide +kernel
theorem q212_41 : am_look 212 41 = some (.istore 4, 43, 4, 0, 0) := by decide +kernel
theorem q212_43 : am_look 212 43 = some (.iconst 0, 44, 0, 0, 0) := by decide +kernel
theorem q212_44 : am_look 212 44 = some (.istore 5, 46, 5, 0, 0) := by decide +kernel
theorem q212_46 : am_look 212 46 = some (.iconst 0, 47, 0, 0, 0) := by decide +kernel
theorem q212_47 : am_look 212 47 = some (.istore 6, 49, 6, 0, 0) := by decide +kernel
theorem q212_49 : am_look 212 49 = some (.iload 6, 51, 6, 0, 0) := by decide +kernel
theorem q212_51 : am_look 212 51 = some (.aload_n 0, 52, 0, 0, 0) := by decide +kernel
theorem q212_52 : am_look 212 52 = some (.getfield 10, 55, 704, 0, 0) := by decide +kernel
theorem q212_55 : am_look 212 55 = some (.invokevirtual 105, 58, 36, 1, 6) := by decide +kernel
theorem q212_58 : am_look 212 58 = some (.if_icmp .ge 37, 61, 95, 0, 0) := by decide +kernel
theorem q212_61 : am_look 212 61 = some (.iload 4, 63, 4, 0, 0) := by decide +kernel
theorem q212_63 : am_look 212 63 = some (.iconst (-1), 64, 0, 0, (-1)) := by decide +kernel
theorem q212_64 : am_look 212 64 = some (.if_icmp .eq 31, 67, 95, 0, 0) := by decide +kernel
theorem q212_67 : am_look 212 67 = some (.aload_n 0, 68, 0, 0, 0) := by decide +kernel
theorem q212_68 : am_look 212 68 = some (.getfield 35, 71, 707, 3, 0) := by decide +kernel
theorem q212_71 : am_look 212 71 = some (.iload 6, 73, 6, 0, 0) := by decide +kernel
theorem q212_73 : am_look 212 73 = some (.iload_n 2, 74, 2, 0, 0) := by decide +kernel
theorem q212_74 : am_look 212 74 = some (.aload_n 0, 75, 0, 0, 0) := by decide +kernel
theorem q212_75 : am_look 212 75 = some (.getfield 146, 78, 716, 12, 0) := by decide +kernel
theorem q212_78 : am_look 212 78 = some (.invokevirtual 207, 81, 139, 4, 0) := by decide +kernel
theorem q212_81 : am_look 212 81 = some (.iload 4, 83, 4, 0, 0) := by decide +kernel
theorem q212_83 : am_look 212 83 = some (.if_icmp .ne 6, 86, 89, 0, 0) := by decide +kernel
theorem q212_86 : am_look 212 86 = some (.iinc 5 1, 89, 5, 0, 1) := by decide +kernel
theorem q212_89 : am_look 212 89 = some (.iinc 6 1, 92, 6, 0, 1) := by decide +kernel
theorem q212_92 : am_look 212 92 = some (.goto (-43), 95, 49, 0, 0) := by decide +kernel
theorem q212_95 : am_look 212 95 = some (.iload 5, 97, 5, 0, 0) := by decide +kernel
theorem q212_97 : am_look 212 97 = some (.ireturn, 98, 0, 0, 0) := by decide +kernel
theorem zb212 : am_zb 212 = false := by decide +kernel
theorem ml212 : am_ml 212 = 7 := by decide +kernel
theorem np212 : am_np 212 + (if am_sc 212 then 0 else 1) = 4 := by decide +kernel
theorem st212 {d : Nat} {h h1 : am_H} {r : Option am_V} (p0 : Nat) (a1 : Int) (a2 : Int) (a3 : Int) (H : am_x (am_cd d) 212 (fun r2 h2 => r2 = r ∧ h2 = h1) 0 0 [some (.inr (.inr p0)), some (.inl a1), some (.inl a2), some (.inl a3), none, none, none] [] h) : am_cd (d + 1) 212 [.inr (.inr p0), .inl a1, .inl a2, .inl a3] h r h1 := by
  refine ⟨⟨by rw [ml212]; simp [am_en], by rw [np212]; rfl⟩, ?_⟩
  rw [ml212]; exact H
theorem q213_0 : am_look 213 0 = some (.aload_n 0, 1, 0, 0, 0) := by decide +kernel
theorem q213_1 : am_look 213 1 = some (.getfield 10, 4, 704, 0, 0) := by decide +kernel
theorem q213_4 : am_look 213 4 = some (.iload_n 1, 5, 1, 0, 0) := by decide +kernel
theorem q213_5 : am_look 213 5 = some (.invokevirtual 280, 8, 98, 2, 6) := by decide +kernel
theorem q213_8 : am_look 213 8 = some (.ifCond .eq 13, 11, 21, 0, 0) := by decide +kernel
theorem q213_11 : am_look 213 11 = some (.iload_n 2, 12, 2, 0, 0) := by decide +kernel
theorem q213_12 : am_look 213 12 = some (.ifCond .lt 9, 15, 21, 0, 0) := by decide +kernel
theorem q213_15 : am_look 213 15 = some (.iload_n 2, 16, 2, 0, 0) := by decide +kernel
theorem q213_16 : am_look 213 16 = some (.bipush 30, 18, 0, 0, 30) := by decide +kernel
theorem q213_18 : am_look 213 18 = some (.if_icmp .le 10, 21, 28, 0, 0) := by decide +kernel
theorem q213_21 : am_look 213 21 = some (.aload_n 0, 22, 0, 0, 0) := by decide +kernel
theorem q213_22 : am_look 213 22 = some (.ldc 100, 24, 0, 0, (-100001)) := by decide +kernel
theorem q213_24 : am_look 213 24 = some (.invokevirtual 101, 27, 70, 2, 11) := by decide +kernel
theorem q213_27 : am_look 213 27 = some (.ireturn, 28, 0, 0, 0) := by decide +kernel
theorem q213_28 : am_look 213 28 = some (.aload_n 0, 29, 0, 0, 0) := by decide +kernel
theorem q213_29 : am_look 213 29 = some (.getfield 78, 32, 712, 8, 0) := by decide +kernel
theorem q213_32 : am_look 213 32 = some (.invokevirtual 300, 35, 181, 1, 8) := by decide +kernel
theorem q213_35 : am_look 213 35 = some (.aload_n 0, 36, 0, 0, 0) := by decide +kernel
theorem q213_36 : am_look 213 36 = some (.getfield 78, 39, 712, 8, 0) := by decide +kernel
theorem q213_39 : am_look 213 39 = some (.iload_n 1, 40, 1, 0, 0) := by decide +kernel
theorem q213_40 : am_look 213 40 = some (.iload_n 2, 41, 2, 0, 0) := by decide +kernel
theorem q213_41 : am_look 213 41 = some (.invokevirtual 303, 44, 148, 3, 8) := by decide +kernel
theorem q213_44 : am_look 213 44 = some (.ireturn, 45, 0, 0, 0) := by decide +kernel
theorem zb213 : am_zb 213 = false := by decide +kernel
theorem ml213 : am_ml 213 = 3 := by decide +kernel
theorem np213 : am_np 213 + (if am_sc 213 then 0 else 1) = 3 := by decide +kernel
theorem st213 {d : Nat} {h h1 : am_H} {r : Option am_V} (p0 : Nat) (a1 : Int) (a2 : Int) (H : am_x (am_cd d) 213 (fun r2 h2 => r2 = r ∧ h2 = h1) 0 0 [some (.inr (.inr p0)), some (.inl a1), some (.inl a2)] [] h) : am_cd (d + 1) 213 [.inr (.inr p0), .inl a1, .inl a2] h r h1 := by
  refine ⟨⟨by rw [ml213]; simp [am_en], by rw [np213]; rfl⟩, ?_⟩
  rw [ml213]; exact H
theorem q214_0 : am_look 214 0 = some (.iload_n 1, 1, 1, 0, 0) := by decide +kernel
theorem q214_1 : am_look 214 1 = some (.tableswitch 142 0 8 #[51, 61, 71, 81, 91, 101, 111, 118, 135], 52, 0, 0, 0) := by decide +kernel
theorem q214_52 : am_look 214 52 = some (.aload_n 0, 53, 0, 0, 0) := by decide +kernel
theorem q214_53 : am_look 214 53 = some (.getfield 10, 56, 704, 0, 0) := by decide +kernel
theorem q214_56 : am_look 214 56 = some (.invokevirtual 105, 59, 36, 1, 6) := by decide +kernel
theorem q214_59 : am_look 214 59 = some (.goto 90, 62, 149, 0, 0) := by decide +kernel
theorem q214_62 : am_look 214 62 = some (.aload_n 0, 63, 0, 0, 0) := by decide +kernel
theorem q214_63 : am_look 214 63 = some (.getfield 10, 66, 704, 0, 0) := by decide +kernel
theorem q214_66 : am_look 214 66 = some (.invokevirtual 362, 69, 179, 1, 6) := by decide +kernel
theorem q214_69 : am_look 214 69 = some (.goto 80, 72, 149, 0, 0) := by decide +kernel
theorem q214_72 : am_look 214 72 = some (.aload_n 0, 73, 0, 0, 0) := by decide +kernel
theorem q214_73 : am_look 214 73 = some (.getfield 19, 76, 705, 1, 0) := by decide +kernel
theorem q214_76 : am_look 214 76 = some (.invokevirtual 153, 79, 10, 1, 1) := by decide +kernel
theorem q214_79 : am_look 214 79 = some (.goto 70, 82, 149, 0, 0) := by decide +kernel
theorem q214_82 : am_look 214 82 = some (.aload_n 0, 83, 0, 0, 0) := by decide +kernel
theorem q214_83 : am_look 214 83 = some (.getfield 26, 86, 706, 2, 0) := by decide +kernel
theorem q214_86 : am_look 214 86 = some (.invokevirtual 174, 89, 23, 1, 4) := by decide +kernel
theorem q214_89 : am_look 214 89 = some (.goto 60, 92, 149, 0, 0) := by decide +kernel
theorem q214_92 : am_look 214 92 = some (.aload_n 0, 93, 0, 0, 0) := by decide +kernel
theorem q214_93 : am_look 214 93 = some (.getfield 35, 96, 707, 3, 0) := by decide +kernel
theorem q214_96 : am_look 214 96 = some (.invokevirtual 190, 99, 0, 1, 0) := by decide +kernel
theorem q214_99 : am_look 214 99 = some (.goto 50, 102, 149, 0, 0) := by decide +kernel
theorem q214_102 : am_look 214 102 = some (.aload_n 0, 103, 0, 0, 0) := by decide +kernel
theorem q214_103 : am_look 214 103 = some (.getfield 35, 106, 707, 3, 0) := by decide +kernel
theorem q214_106 : am_look 214 106 = some (.invokevirtual 365, 109, 91, 1, 0) := by decide +kernel
theorem q214_109 : am_look 214 109 = some (.goto 40, 112, 149, 0, 0) := by decide +kernel
theorem q214_112 : am_look 214 112 = some (.aload_n 0, 113, 0, 0, 0) := by decide +kernel
theorem q214_113 : am_look 214 113 = some (.getfield 146, 116, 716, 12, 0) := by decide +kernel
theorem q214_116 : am_look 214 116 = some (.goto 33, 119, 149, 0, 0) := by decide +kernel
theorem q214_119 : am_look 214 119 = some (.aload_n 0, 120, 0, 0, 0) := by decide +kernel
theorem q214_120 : am_look 214 120 = some (.getfield 10, 123, 704, 0, 0) := by decide +kernel
theorem q214_123 : am_look 214 123 = some (.aload_n 0, 124, 0, 0, 0) := by decide +kernel
theorem q214_124 : am_look 214 124 = some (.getfield 10, 127, 704, 0, 0) := by decide +kernel
theorem q214_127 : am_look 214 127 = some (.invokevirtual 268, 130, 38, 1, 6) := by decide +kernel
theorem q214_130 : am_look 214 130 = some (.invokevirtual 368, 133, 44, 2, 6) := by decide +kernel
theorem q214_133 : am_look 214 133 = some (.goto 16, 136, 149, 0, 0) := by decide +kernel
theorem q214_136 : am_look 214 136 = some (.aload_n 0, 137, 0, 0, 0) := by decide +kernel
theorem q214_137 : am_look 214 137 = some (.getfield 371, 140, 717, 13, 0) := by decide +kernel
theorem q214_140 : am_look 214 140 = some (.goto 9, 143, 149, 0, 0) := by decide +kernel
theorem q214_143 : am_look 214 143 = some (.aload_n 0, 144, 0, 0, 0) := by decide +kernel
theorem q214_144 : am_look 214 144 = some (.ldc 100, 146, 0, 0, (-100001)) := by decide +kernel
theorem q214_146 : am_look 214 146 = some (.invokevirtual 101, 149, 70, 2, 11) := by decide +kernel
theorem q214_149 : am_look 214 149 = some (.ireturn, 150, 0, 0, 0) := by decide +kernel
theorem zb214 : am_zb 214 = false := by decide +kernel
theorem ml214 : am_ml 214 = 2 := by decide +kernel
theorem np214 : am_np 214 + (if am_sc 214 then 0 else 1) = 2 := by decide +kernel
theorem st214 {d : Nat} {h h1 : am_H} {r : Option am_V} (p0 : Nat) (a1 : Int) (H : am_x (am_cd d) 214 (fun r2 h2 => r2 = r ∧ h2 = h1) 0 0 [some (.inr (.inr p0)), some (.inl a1)] [] h) : am_cd (d + 1) 214 [.inr (.inr p0), .inl a1] h r h1 := by
  refine ⟨⟨by rw [ml214]; simp [am_en], by rw [np214]; rfl⟩, ?_⟩
  rw [ml214]; exact H
theorem q215_0 : am_look 215 0 = some (.aload_n 0, 1, 0, 0, 0) := by decide +kernel
theorem q215_1 : am_look 215 1 = some (.getfield 10, 4, 704, 0, 0) := by decide +kernel
theorem q215_4 : am_look 215 4 = some (.aload_n 0, 5, 0, 0, 0) := by decide +kernel
theorem q215_5 : am_look 215 5 = some (.getfield 10, 8, 704, 0, 0) := by decide +kernel
theorem q215_8 : am_look 215 8 = some (.invokevirtual 268, 11, 38, 1, 6) := by decide +kernel
theorem q215_11 : am_look 215 11 = some (.iload_n 1, 12, 1, 0, 0) := by decide +kernel
theorem q215_12 : am_look 215 12 = some (.iconst (-1), 13, 0, 0, (-1)) := by decide +kernel
theorem q215_13 : am_look 215 13 = some (.ixor, 14, 0, 0, 0) := by decide +kernel
theorem q215_14 : am_look 215 14 = some (.iand, 15, 0, 0, 0) := by decide +kernel
theorem q215_15 : am_look 215 15 = some (.invokevirtual 132, 18, 180, 2, 6) := by decide +kernel
theorem q215_18 : am_look 215 18 = some (.iconst (-1), 19, 0, 0, (-1)) := by decide +kernel
theorem q215_19 : am_look 215 19 = some (.istore_n 2, 20, 2, 0, 0) := by decide +kernel
theorem q215_20 : am_look 215 20 = some (.iconst 0, 21, 0, 0, 0) := by decide +kernel
theorem q215_21 : am_look 215 21 = some (.istore_n 3, 22, 3, 0, 0) := by decide +kernel
theorem q215_22 : am_look 215 22 = some (.iload_n 3, 23, 3, 0, 0) := by decide +kernel
theorem q215_23 : am_look 215 23 = some (.aload_n 0, 24, 0, 0, 0) := by decide +kernel
theorem q215_24 : am_look 215 24 = some (.getfield 10, 27, 704, 0, 0) := by decide +kernel
theorem q215_27 : am_look 215 27 = some (.invokevirtual 105, 30, 36, 1, 6) := by decide +kernel
theorem q215_30 : am_look 215 30 = some (.if_icmp .ge 33, 33, 63, 0, 0) := by decide +kernel
theorem q215_33 : am_look 215 33 = some (.iload_n 1, 34, 1, 0, 0) := by decide +kernel
theorem q215_34 : am_look 215 34 = some (.iconst 1, 35, 0, 0, 1) := by decide +kernel
theorem q215_35 : am_look 215 35 = some (.iload_n 3, 36, 3, 0, 0) := by decide +kernel
theorem q215_36 : am_look 215 36 = some (.ishl, 37, 0, 0, 0) := by decide +kernel
theorem q215_37 : am_look 215 37 = some (.iand, 38, 0, 0, 0) := by decide +kernel
theorem q215_38 : am_look 215 38 = some (.ifCond .eq 19, 41, 57, 0, 0) := by decide +kernel
theorem q215_41 : am_look 215 41 = some (.iload_n 2, 42, 2, 0, 0) := by decide +kernel
theorem q215_42 : am_look 215 42 = some (.iconst (-1), 43, 0, 0, (-1)) := by decide +kernel
theorem q215_43 : am_look 215 43 = some (.if_icmp .eq 12, 46, 55, 0, 0) := by decide +kernel
theorem q215_46 : am_look 215 46 = some (.aload_n 0, 47, 0, 0, 0) := by decide +kernel
theorem q215_47 : am_look 215 47 = some (.iload_n 3, 48, 3, 0, 0) := by decide +kernel
theorem q215_48 : am_look 215 48 = some (.iload_n 2, 49, 2, 0, 0) := by decide +kernel
theorem q215_49 : am_look 215 49 = some (.invokevirtual 374, 52, 113, 3, 11) := by decide +kernel
theorem q215_52 : am_look 215 52 = some (.ifCond .eq 5, 55, 57, 0, 0) := by decide +kernel
theorem q215_55 : am_look 215 55 = some (.iload_n 3, 56, 3, 0, 0) := by decide +kernel
theorem q215_56 : am_look 215 56 = some (.istore_n 2, 57, 2, 0, 0) := by decide +kernel
theorem q215_57 : am_look 215 57 = some (.iinc 3 1, 60, 3, 0, 1) := by decide +kernel
theorem q215_60 : am_look 215 60 = some (.goto (-38), 63, 22, 0, 0) := by decide +kernel
theorem q215_63 : am_look 215 63 = some (.iload_n 2, 64, 2, 0, 0) := by decide +kernel
theorem q215_64 : am_look 215 64 = some (.ireturn, 65, 0, 0, 0) := by decide +kernel
theorem zb215 : am_zb 215 = false := by decide +kernel
theorem ml215 : am_ml 215 = 4 := by decide +kernel
theorem np215 : am_np 215 + (if am_sc 215 then 0 else 1) = 2 := by decide +kernel
theorem st215 {d : Nat} {h h1 : am_H} {r : Option am_V} (p0 : Nat) (a1 : Int) (H : am_x (am_cd d) 215 (fun r2 h2 => r2 = r ∧ h2 = h1) 0 0 [some (.inr (.inr p0)), some (.inl a1), none, none] [] h) : am_cd (d + 1) 215 [.inr (.inr p0), .inl a1] h r h1 := by
  refine ⟨⟨by rw [ml215]; simp [am_en], by rw [np215]; rfl⟩, ?_⟩
  rw [ml215]; exact H
theorem q216_0 : am_look 216 0 = some (.aload_n 0, 1, 0, 0, 0) := by decide +kernel
theorem q216_1 : am_look 216 1 = some (.getfield 96, 4, 715, 11, 0) := by decide +kernel
theorem q216_4 : am_look 216 4 = some (.iconst (-1), 5, 0, 0, (-1)) := by decide +kernel
theorem q216_5 : am_look 216 5 = some (.invokestatic 380, 8, 90, 2, 99) := by decide +kernel
theorem q216_8 : am_look 216 8 = some (.aload_n 0, 9, 0, 0, 0) := by decide +kernel
theorem q216_9 : am_look 216 9 = some (.getfield 10, 12, 704, 0, 0) := by decide +kernel
theorem q216_12 : am_look 216 12 = some (.iconst 1, 13, 0, 0, 1) := by decide +kernel
theorem q216_13 : am_look 216 13 = some (.iload_n 1, 14, 1, 0, 0) := by decide +kernel
theorem q216_14 : am_look 216 14 = some (.ishl, 15, 0, 0, 0) := by decide +kernel
theorem q216_15 : am_look 216 15 = some (.invokevirtual 132, 18, 180, 2, 6) := by decide +kernel
theorem q216_18 : am_look 216 18 = some (.iconst 0, 19, 0, 0, 0) := by decide +kernel
theorem q216_19 : am_look 216 19 = some (.istore_n 3, 20, 3, 0, 0) := by decide +kernel
theorem q216_20 : am_look 216 20 = some (.iload_n 3, 21, 3, 0, 0) := by decide +kernel
theorem q216_21 : am_look 216 21 = some (.aload_n 0, 22, 0, 0, 0) := by decide +kernel
theorem q216_22 : am_look 216 22 = some (.getfield 10, 25, 704, 0, 0) := by decide +kernel
theorem q216_25 : am_look 216 25 = some (.invokevirtual 105, 28, 36, 1, 6) := by decide +kernel
theorem q216_28 : am_look 216 28 = some (.if_icmp .ge 84, 31, 112, 0, 0) := by decide +kernel
theorem q216_31 : am_look 216 31 = some (.aload_n 0, 32, 0, 0, 0) := by decide +kernel
theorem q216_32 : am_look 216 32 = some (.getfield 35, 35, 707, 3, 0) := by decide +kernel
theorem q216_35 : am_look 216 35 = some (.iload_n 3, 36, 3, 0, 0) := by decide +kernel
theorem q216_36 : am_look 216 36 = some (.iload_n 2, 37, 2, 0, 0) := by decide +kernel
theorem q216_37 : am_look 216 37 = some (.aload_n 0, 38, 0, 0, 0) := by decide +kernel
theorem q216_38 : am_look 216 38 = some (.getfield 146, 41, 716, 12, 0) := by decide +kernel
theorem q216_41 : am_look 216 41 = some (.invokevirtual 207, 44, 139, 4, 0) := by decide +kernel
theorem q216_44 : am_look 216 44 = some (.istore 4, 46, 4, 0, 0) := by decide +kernel
theorem q216_46 : am_look 216 46 = some (.iload_n 3, 47, 3, 0, 0) := by decide +kernel
theorem q216_47 : am_look 216 47 = some (.iload_n 1, 48, 1, 0, 0) := by decide +kernel
theorem q216_48 : am_look 216 48 = some (.if_icmp .eq 58, 51, 106, 0, 0) := by decide +kernel
theorem q216_51 : am_look 216 51 = some (.iload 4, 53, 4, 0, 0) := by decide +kernel
theorem q216_53 : am_look 216 53 = some (.iconst (-1), 54, 0, 0, (-1)) := by decide +kernel
theorem q216_54 : am_look 216 54 = some (.if_icmp .eq 52, 57, 106, 0, 0) := by decide +kernel
theorem q216_57 : am_look 216 57 = some (.aload_n 0, 58, 0, 0, 0) := by decide +kernel
theorem q216_58 : am_look 216 58 = some (.getfield 10, 61, 704, 0, 0) := by decide +kernel
theorem q216_61 : am_look 216 61 = some (.iload_n 3, 62, 3, 0, 0) := by decide +kernel
theorem q216_62 : am_look 216 62 = some (.invokevirtual 136, 65, 50, 2, 6) := by decide +kernel
theorem q216_65 : am_look 216 65 = some (.ifCond .eq 41, 68, 106, 0, 0) := by decide +kernel
theorem q216_68 : am_look 216 68 = some (.aload_n 0, 69, 0, 0, 0) := by decide +kernel
theorem q216_69 : am_look 216 69 = some (.getfield 96, 72, 715, 11, 0) := by decide +kernel
theorem q216_72 : am_look 216 72 = some (.iload 4, 74, 4, 0, 0) := by decide +kernel
theorem q216_74 : am_look 216 74 = some (.aload_n 0, 75, 0, 0, 0) := by decide +kernel
theorem q216_75 : am_look 216 75 = some (.getfield 96, 78, 715, 11, 0) := by decide +kernel
theorem q216_78 : am_look 216 78 = some (.iload 4, 80, 4, 0, 0) := by decide +kernel
theorem q216_80 : am_look 216 80 = some (.iaload, 81, 0, 0, 0) := by decide +kernel
theorem q216_81 : am_look 216 81 = some (.iconst 0, 82, 0, 0, 0) := by decide +kernel
theorem q216_82 : am_look 216 82 = some (.invokestatic 386, 85, 87, 2, 99) := by decide +kernel
theorem q216_85 : am_look 216 85 = some (.aload_n 0, 86, 0, 0, 0) := by decide +kernel
theorem q216_86 : am_look 216 86 = some (.getfield 10, 89, 704, 0, 0) := by decide +kernel
theorem q216_89 : am_look 216 89 = some (.iload_n 3, 90, 3, 0, 0) := by decide +kernel
theorem q216_90 : am_look 216 90 = some (.invokevirtual 377, 93, 43, 2, 6) := by decide +kernel
theorem q216_93 : am_look 216 93 = some (.iconst 1, 94, 0, 0, 1) := by decide +kernel
theorem q216_94 : am_look 216 94 = some (.aload_n 0, 95, 0, 0, 0) := by decide +kernel
theorem q216_95 : am_look 216 95 = some (.getfield 10, 98, 704, 0, 0) := by decide +kernel
theorem q216_98 : am_look 216 98 = some (.iload_n 3, 99, 3, 0, 0) := by decide +kernel
theorem q216_99 : am_look 216 99 = some (.invokevirtual 139, 102, 49, 2, 6) := by decide +kernel
theorem q216_102 : am_look 216 102 = some (.iadd, 103, 0, 0, 0) := by decide +kernel
theorem q216_103 : am_look 216 103 = some (.idiv, 104, 0, 0, 0) := by decide +kernel
theorem q216_104 : am_look 216 104 = some (.iadd, 105, 0, 0, 0) := by decide +kernel
theorem q216_105 : am_look 216 105 = some (.iastore, 106, 0, 0, 0) := by decide +kernel
theorem q216_106 : am_look 216 106 = some (.iinc 3 1, 109, 3, 0, 1) := by decide +kernel
theorem q216_109 : am_look 216 109 = some (.goto (-89), 112, 20, 0, 0) := by decide +kernel
theorem q216_112 : am_look 216 112 = some (.return_, 113, 0, 0, 0) := by decide +kernel
theorem zb216 : am_zb 216 = false := by decide +kernel
theorem ml216 : am_ml 216 = 5 := by decide +kernel
theorem np216 : am_np 216 + (if am_sc 216 then 0 else 1) = 3 := by decide +kernel
theorem st216 {d : Nat} {h h1 : am_H} {r : Option am_V} (p0 : Nat) (a1 : Int) (a2 : Int) (H : am_x (am_cd d) 216 (fun r2 h2 => r2 = r ∧ h2 = h1) 0 0 [some (.inr (.inr p0)), some (.inl a1), some (.inl a2), none, none] [] h) : am_cd (d + 1) 216 [.inr (.inr p0), .inl a1, .inl a2] h r h1 := by
  refine ⟨⟨by rw [ml216]; simp [am_en], by rw [np216]; rfl⟩, ?_⟩
  rw [ml216]; exact H
theorem q217_0 : am_look 217 0 = some (.aload_n 0, 1, 0, 0, 0) := by decide +kernel
theorem q217_1 : am_look 217 1 = some (.iload_n 1, 2, 1, 0, 0) := by decide +kernel
theorem q217_2 : am_look 217 2 = some (.invokevirtual 100, 5, 114, 2, 12) := by decide +kernel
theorem q217_5 : am_look 217 5 = some (.ifCond .eq 18, 8, 23, 0, 0) := by decide +kernel
theorem q217_8 : am_look 217 8 = some (.aload_n 0, 9, 0, 0, 0) := by decide +kernel
theorem q217_9 : am_look 217 9 = some (.iload_n 2, 10, 2, 0, 0) := by decide +kernel
theorem q217_10 : am_look 217 10 = some (.invokevirtual 100, 13, 114, 2, 12) := by decide +kernel
theorem q217_13 : am_look 217 13 = some (.ifCond .eq 10, 16, 23, 0, 0) := by decide +kernel
theorem q217_16 : am_look 217 16 = some (.iload_n 3, 17, 3, 0, 0) := by decide +kernel
theorem q217_17 : am_look 217 17 = some (.invokestatic 142, 20, 117, 1, 99) := by decide +kernel
theorem q217_20 : am_look 217 20 = some (.ifCond .ne 10, 23, 30, 0, 0) := by decide +kernel
theorem q217_23 : am_look 217 23 = some (.aload_n 0, 24, 0, 0, 0) := by decide +kernel
theorem q217_24 : am_look 217 24 = some (.ldc 95, 26, 0, 0, (-100001)) := by decide +kernel
theorem q217_26 : am_look 217 26 = some (.invokevirtual 91, 29, 74, 2, 12) := by decide +kernel
theorem q217_29 : am_look 217 29 = some (.ireturn, 30, 0, 0, 0) := by decide +kernel
theorem q217_30 : am_look 217 30 = some (.aload_n 0, 31, 0, 0, 0) := by decide +kernel
theorem q217_31 : am_look 217 31 = some (.iload_n 3, 32, 3, 0, 0) := by decide +kernel
theorem q217_32 : am_look 217 32 = some (.invokevirtual 189, 35, 197, 2, 12) := by decide +kernel
theorem q217_35 : am_look 217 35 = some (.aload_n 0, 36, 0, 0, 0) := by decide +kernel
theorem q217_36 : am_look 217 36 = some (.getfield 46, 39, 785, 17, 0) := by decide +kernel
theorem q217_39 : am_look 217 39 = some (.bipush 12, 41, 0, 0, 12) := by decide +kernel
theorem q217_41 : am_look 217 41 = some (.iload_n 1, 42, 1, 0, 0) := by decide +kernel
theorem q217_42 : am_look 217 42 = some (.imul, 43, 0, 0, 0) := by decide +kernel
theorem q217_43 : am_look 217 43 = some (.iload_n 2, 44, 2, 0, 0) := by decide +kernel
theorem q217_44 : am_look 217 44 = some (.iadd, 45, 0, 0, 0) := by decide +kernel
theorem q217_45 : am_look 217 45 = some (.iaload, 46, 0, 0, 0) := by decide +kernel
theorem q217_46 : am_look 217 46 = some (.ireturn, 47, 0, 0, 0) := by decide +kernel
theorem zb217 : am_zb 217 = false := by decide +kernel
theorem ml217 : am_ml 217 = 4 := by decide +kernel
theorem np217 : am_np 217 + (if am_sc 217 then 0 else 1) = 4 := by decide +kernel
theorem st217 {d : Nat} {h h1 : am_H} {r : Option am_V} (p0 : Nat) (a1 : Int) (a2 : Int) (a3 : Int) (H : am_x (am_cd d) 217 (fun r2 h2 => r2 = r ∧ h2 = h1) 0 0 [some (.inr (.inr p0)), some (.inl a1), some (.inl a2), some (.inl a3)] [] h) : am_cd (d + 1) 217 [.inr (.inr p0), .inl a1, .inl a2, .inl a3] h r h1 := by
  refine ⟨⟨by rw [ml217]; simp [am_en], by rw [np217]; rfl⟩, ?_⟩
  rw [ml217]; exact H
theorem q218_0 : am_look 218 0 = some (.iload_n 1, 1, 1, 0, 0) := by decide +kernel
theorem q218_1 : am_look 218 1 = some (.iconst 1, 2, 0, 0, 1) := by decide +kernel
theorem q218_2 : am_look 218 2 = some (.iconst 4, 3, 0, 0, 4) := by decide +kernel
theorem q218_3 : am_look 218 3 = some (.invokestatic 83, 6, 73, 3, 99) := by decide +kernel
theorem q218_6 : am_look 218 6 = some (.ifCond .eq 19, 9, 25, 0, 0) := by decide +kernel
theorem q218_9 : am_look 218 9 = some (.iload_n 2, 10, 2, 0, 0) := by decide +kernel
theorem q218_10 : am_look 218 10 = some (.iconst (-1), 11, 0, 0, (-1)) := by decide +kernel
theorem q218_11 : am_look 218 11 = some (.aload_n 0, 12, 0, 0, 0) := by decide +kernel
theorem q218_12 : am_look 218 12 = some (.getfield 7, 15, 768, 0, 0) := by decide +kernel
theorem q218_15 : am_look 218 15 = some (.iconst 0, 16, 0, 0, 0) := by decide +kernel
theorem q218_16 : am_look 218 16 = some (.iaload, 17, 0, 0, 0) := by decide +kernel
theorem q218_17 : am_look 218 17 = some (.iconst 1, 18, 0, 0, 1) := by decide +kernel
theorem q218_18 : am_look 218 18 = some (.isub, 19, 0, 0, 0) := by decide +kernel
theorem q218_19 : am_look 218 19 = some (.invokestatic 83, 22, 73, 3, 99) := by decide +kernel
theorem q218_22 : am_look 218 22 = some (.ifCond .ne 10, 25, 32, 0, 0) := by decide +kernel
theorem q218_25 : am_look 218 25 = some (.aload_n 0, 26, 0, 0, 0) := by decide +kernel
theorem q218_26 : am_look 218 26 = some (.ldc 95, 28, 0, 0, (-100001)) := by decide +kernel
theorem q218_28 : am_look 218 28 = some (.invokevirtual 91, 31, 74, 2, 12) := by decide +kernel
theorem q218_31 : am_look 218 31 = some (.ireturn, 32, 0, 0, 0) := by decide +kernel
theorem q218_32 : am_look 218 32 = some (.aload_n 0, 33, 0, 0, 0) := by decide +kernel
theorem q218_33 : am_look 218 33 = some (.getfield 7, 36, 768, 0, 0) := by decide +kernel
theorem q218_36 : am_look 218 36 = some (.iconst 0, 37, 0, 0, 0) := by decide +kernel
theorem q218_37 : am_look 218 37 = some (.iaload, 38, 0, 0, 0) := by decide +kernel
theorem q218_38 : am_look 218 38 = some (.ifCond .ne 10, 41, 48, 0, 0) := by decide +kernel
theorem q218_41 : am_look 218 41 = some (.aload_n 0, 42, 0, 0, 0) := by decide +kernel
theorem q218_42 : am_look 218 42 = some (.ldc 90, 44, 0, 0, (-100006)) := by decide +kernel
theorem q218_44 : am_look 218 44 = some (.invokevirtual 91, 47, 74, 2, 12) := by decide +kernel
theorem q218_47 : am_look 218 47 = some (.ireturn, 48, 0, 0, 0) := by decide +kernel
theorem q218_48 : am_look 218 48 = some (.aload_n 0, 49, 0, 0, 0) := by decide +kernel
theorem q218_49 : am_look 218 49 = some (.getfield 7, 52, 768, 0, 0) := by decide +kernel
theorem q218_52 : am_look 218 52 = some (.iconst 0, 53, 0, 0, 0) := by decide +kernel
theorem q218_53 : am_look 218 53 = some (.iaload, 54, 0, 0, 0) := by decide +kernel
theorem q218_54 : am_look 218 54 = some (.bipush 10, 56, 0, 0, 10) := by decide +kernel
theorem q218_56 : am_look 218 56 = some (.if_icmp .le 10, 59, 66, 0, 0) := by decide +kernel
theorem q218_59 : am_look 218 59 = some (.aload_n 0, 60, 0, 0, 0) := by decide +kernel
theorem q218_60 : am_look 218 60 = some (.ldc 104, 62, 0, 0, (-100003)) := by decide +kernel
theorem q218_62 : am_look 218 62 = some (.invokevirtual 91, 65, 74, 2, 12) := by decide +kernel
theorem q218_65 : am_look 218 65 = some (.ireturn, 66, 0, 0, 0) := by decide +kernel
theorem q218_66 : am_look 218 66 = some (.aload_n 0, 67, 0, 0, 0) := by decide +kernel
theorem q218_67 : am_look 218 67 = some (.aload_n 0, 68, 0, 0, 0) := by decide +kernel
theorem q218_68 : am_look 218 68 = some (.getfield 7, 71, 768, 0, 0) := by decide +kernel
theorem q218_71 : am_look 218 71 = some (.iconst 4, 72, 0, 0, 4) := by decide +kernel
theorem q218_72 : am_look 218 72 = some (.iaload, 73, 0, 0, 0) := by decide +kernel
theorem q218_73 : am_look 218 73 = some (.invokevirtual 189, 76, 197, 2, 12) := by decide +kernel
theorem q218_76 : am_look 218 76 = some (.aload_n 0, 77, 0, 0, 0) := by decide +kernel
theorem q218_77 : am_look 218 77 = some (.iconst (-1), 78, 0, 0, (-1)) := by decide +kernel
theorem q218_78 : am_look 218 78 = some (.putfield 192, 81, 789, 21, 0) := by decide +kernel
theorem q218_81 : am_look 218 81 = some (.aload_n 0, 82, 0, 0, 0) := by decide +kernel
theorem q218_82 : am_look 218 82 = some (.iconst 0, 83, 0, 0, 0) := by decide +kernel
theorem q218_83 : am_look 218 83 = some (.iconst 0, 84, 0, 0, 0) := by decide +kernel
theorem q218_84 : am_look 218 84 = some (.iload_n 1, 85, 1, 0, 0) := by decide +kernel
theorem q218_85 : am_look 218 85 = some (.iconst 0, 86, 0, 0, 0) := by decide +kernel
theorem q218_86 : am_look 218 86 = some (.invokevirtual 195, 89, 83, 5, 12) := by decide +kernel
theorem q218_89 : am_look 218 89 = some (.iload_n 2, 90, 2, 0, 0) := by decide +kernel
theorem q218_90 : am_look 218 90 = some (.ifCond .ge 10, 93, 100, 0, 0) := by decide +kernel
theorem q218_93 : am_look 218 93 = some (.aload_n 0, 94, 0, 0, 0) := by decide +kernel
theorem q218_94 : am_look 218 94 = some (.getfield 192, 97, 789, 21, 0) := by decide +kernel
theorem q218_97 : am_look 218 97 = some (.goto 9, 100, 106, 0, 0) := by decide +kernel
theorem q218_100 : am_look 218 100 = some (.aload_n 0, 101, 0, 0, 0) := by decide +kernel
theorem q218_101 : am_look 218 101 = some (.getfield 55, 104, 788, 20, 0) := by decide +kernel
theorem q218_104 : am_look 218 104 = some (.iload_n 2, 105, 2, 0, 0) := by decide +kernel
theorem q218_105 : am_look 218 105 = some (.iaload, 106, 0, 0, 0) := by decide +kernel
theorem q218_106 : am_look 218 106 = some (.ireturn, 107, 0, 0, 0) := by decide +kernel
theorem zb218 : am_zb 218 = false := by decide +kernel
theorem ml218 : am_ml 218 = 3 := by decide +kernel
theorem np218 : am_np 218 + (if am_sc 218 then 0 else 1) = 3 := by decide +kernel
theorem st218 {d : Nat} {h h1 : am_H} {r : Option am_V} (p0 : Nat) (a1 : Int) (a2 : Int) (H : am_x (am_cd d) 218 (fun r2 h2 => r2 = r ∧ h2 = h1) 0 0 [some (.inr (.inr p0)), some (.inl a1), some (.inl a2)] [] h) : am_cd (d + 1) 218 [.inr (.inr p0), .inl a1, .inl a2] h r h1 := by
  refine ⟨⟨by rw [ml218]; simp [am_en], by rw [np218]; rfl⟩, ?_⟩
  rw [ml218]; exact H
theorem q219_0 : am_look 219 0 = some (.iload_n 1, 1, 1, 0, 0) := by decide +kernel
theorem q219_1 : am_look 219 1 = some (.invokestatic 199, 4, 135, 1, 99) := by decide +kernel
theorem q219_4 : am_look 219 4 = some (.ifCond .ne 10, 7, 14, 0, 0) := by decide +kernel
theorem q219_7 : am_look 219 7 = some (.aload_n 0, 8, 0, 0, 0) := by decide +kernel
theorem q219_8 : am_look 219 8 = some (.ldc 95, 10, 0, 0, (-100001)) := by decide +kernel
theorem q219_10 : am_look 219 10 = some (.invokevirtual 91, 13, 74, 2, 12) := by decide +kernel
theorem q219_13 : am_look 219 13 = some (.ireturn, 14, 0, 0, 0) := by decide +kernel
theorem q219_14 : am_look 219 14 = some (.aload_n 0, 15, 0, 0, 0) := by decide +kernel
theorem q219_15 : am_look 219 15 = some (.getfield 67, 18, 796, 28, 0) := by decide +kernel
theorem q219_18 : am_look 219 18 = some (.iload_n 1, 19, 1, 0, 0) := by decide +kernel
theorem q219_19 : am_look 219 19 = some (.iaload, 20, 0, 0, 0) := by decide +kernel
theorem q219_20 : am_look 219 20 = some (.ifCond .ne 10, 23, 30, 0, 0) := by decide +kernel
theorem q219_23 : am_look 219 23 = some (.aload_n 0, 24, 0, 0, 0) := by decide +kernel
theorem q219_24 : am_look 219 24 = some (.ldc 175, 26, 0, 0, (-100002)) := by decide +kernel
theorem q219_26 : am_look 219 26 = some (.invokevirtual 91, 29, 74, 2, 12) := by decide +kernel
theorem q219_29 : am_look 219 29 = some (.ireturn, 30, 0, 0, 0) := by decide +kernel
theorem q219_30 : am_look 219 30 = some (.aload_n 0, 31, 0, 0, 0) := by decide +kernel
theorem q219_31 : am_look 219 31 = some (.getfield 7, 34, 768, 0, 0) := by decide +kernel
theorem q219_34 : am_look 219 34 = some (.iconst 0, 35, 0, 0, 0) := by decide +kernel
theorem q219_35 : am_look 219 35 = some (.iaload, 36, 0, 0, 0) := by decide +kernel
theorem q219_36 : am_look 219 36 = some (.bipush 10, 38, 0, 0, 10) := by decide +kernel
theorem q219_38 : am_look 219 38 = some (.if_icmp .le 10, 41, 48, 0, 0) := by decide +kernel
theorem q219_41 : am_look 219 41 = some (.aload_n 0, 42, 0, 0, 0) := by decide +kernel
theorem q219_42 : am_look 219 42 = some (.ldc 104, 44, 0, 0, (-100003)) := by decide +kernel
theorem q219_44 : am_look 219 44 = some (.invokevirtual 91, 47, 74, 2, 12) := by decide +kernel
theorem q219_47 : am_look 219 47 = some (.ireturn, 48, 0, 0, 0) := by decide +kernel
theorem q219_48 : am_look 219 48 = some (.aload_n 0, 49, 0, 0, 0) := by decide +kernel
theorem q219_49 : am_look 219 49 = some (.aload_n 0, 50, 0, 0, 0) := by decide +kernel
theorem q219_50 : am_look 219 50 = some (.getfield 7, 53, 768, 0, 0) := by decide +kernel
theorem q219_53 : am_look 219 53 = some (.iconst 4, 54, 0, 0, 4) := by decide +kernel
theorem q219_54 : am_look 219 54 = some (.iaload, 55, 0, 0, 0) := by decide +kernel
theorem q219_55 : am_look 219 55 = some (.invokevirtual 189, 58, 197, 2, 12) := by decide +kernel
theorem q219_58 : am_look 219 58 = some (.iconst 0, 59, 0, 0, 0) := by decide +kernel
theorem q219_59 : am_look 219 59 = some (.istore_n 3, 60, 3, 0, 0) := by decide +kernel
theorem q219_60 : am_look 219 60 = some (.iconst 0, 61, 0, 0, 0) := by decide +kernel
theorem q219_61 : am_look 219 61 = some (.istore 4, 63, 4, 0, 0) := by decide +kernel
theorem q219_63 : am_look 219 63 = some (.iconst 0, 64, 0, 0, 0) := by decide +kernel
theorem q219_64 : am_look 219 64 = some (.istore 5, 66, 5, 0, 0) := by decide +kernel
theorem q219_66 : am_look 219 66 = some (.iload 5, 68, 5, 0, 0) := by decide +kernel
theorem q219_68 : am_look 219 68 = some (.aload_n 0, 69, 0, 0, 0) := by decide +kernel
theorem q219_69 : am_look 219 69 = some (.getfield 7, 72, 768, 0, 0) := by decide +kernel
theorem q219_72 : am_look 219 72 = some (.iconst 0, 73, 0, 0, 0) := by decide +kernel
theorem q219_73 : am_look 219 73 = some (.iaload, 74, 0, 0, 0) := by decide +kernel
theorem q219_74 : am_look 219 74 = some (.if_icmp .ge 139, 77, 213, 0, 0) := by decide +kernel
theorem q219_77 : am_look 219 77 = some (.iload 5, 79, 5, 0, 0) := by decide +kernel
theorem q219_79 : am_look 219 79 = some (.aload_n 0, 80, 0, 0, 0) := by decide +kernel
theorem q219_80 : am_look 219 80 = some (.getfield 70, 83, 797, 29, 0) := by decide +kernel
theorem q219_83 : am_look 219 83 = some (.iload_n 1, 84, 1, 0, 0) := by decide +kernel
theorem q219_84 : am_look 219 84 = some (.iaload, 85, 0, 0, 0) := by decide +kernel
theorem q219_85 : am_look 219 85 = some (.if_icmp .ge 128, 88, 213, 0, 0) := by decide +kernel
theorem q219_88 : am_look 219 88 = some (.aload_n 0, 89, 0, 0, 0) := by decide +kernel
theorem q219_89 : am_look 219 89 = some (.getfield 73, 92, 798, 30, 0) := by decide +kernel
theorem q219_92 : am_look 219 92 = some (.bipush 20, 94, 0, 0, 20) := by decide +kernel
theorem q219_94 : am_look 219 94 = some (.iload_n 1, 95, 1, 0, 0) := by decide +kernel
theorem q219_95 : am_look 219 95 = some (.imul, 96, 0, 0, 0) := by decide +kernel
theorem q219_96 : am_look 219 96 = some (.iload 5, 98, 5, 0, 0) := by decide +kernel
theorem q219_98 : am_look 219 98 = some (.iadd, 99, 0, 0, 0) := by decide +kernel
theorem q219_99 : am_look 219 99 = some (.iaload, 100, 0, 0, 0) := by decide +kernel
theorem q219_100 : am_look 219 100 = some (.istore 6, 102, 6, 0, 0) := by decide +kernel
theorem q219_102 : am_look 219 102 = some (.iload 6, 104, 6, 0, 0) := by decide +kernel
theorem q219_104 : am_look 219 104 = some (.ifCond .lt 15, 107, 119, 0, 0) := by decide +kernel
theorem q219_107 : am_look 219 107 = some (.iload 6, 109, 6, 0, 0) := by decide +kernel
theorem q219_109 : am_look 219 109 = some (.iload_n 3, 110, 3, 0, 0) := by decide +kernel
theorem q219_110 : am_look 219 110 = some (.if_icmp .gt 9, 113, 119, 0, 0) := by decide +kernel
theorem q219_113 : am_look 219 113 = some (.iload 6, 115, 6, 0, 0) := by decide +kernel
theorem q219_115 : am_look 219 115 = some (.iconst 3, 116, 0, 0, 3) := by decide +kernel
theorem q219_116 : am_look 219 116 = some (.if_icmp .le 6, 119, 122, 0, 0) := by decide +kernel
theorem q219_119 : am_look 219 119 = some (.iload 5, 121, 5, 0, 0) := by decide +kernel
theorem q219_121 : am_look 219 121 = some (.ireturn, 122, 0, 0, 0) := by decide +kernel
theorem q219_122 : am_look 219 122 = some (.iload 4, 124, 4, 0, 0) := by decide +kernel
theorem q219_124 : am_look 219 124 = some (.iload 6, 126, 6, 0, 0) := by decide +kernel
theorem q219_126 : am_look 219 126 = some (.iload_n 3, 127, 3, 0, 0) := by decide +kernel
theorem q219_127 : am_look 219 127 = some (.if_icmp .ne 7, 130, 134, 0, 0) := by decide +kernel
theorem q219_130 : am_look 219 130 = some (.iconst 5, 131, 0, 0, 5) := by decide +kernel
theorem q219_131 : am_look 219 131 = some (.goto 4, 134, 135, 0, 0) := by decide +kernel
theorem q219_134 : am_look 219 134 = some (.iconst 0, 135, 0, 0, 0) := by decide +kernel
theorem q219_135 : am_look 219 135 = some (.iadd, 136, 0, 0, 0) := by decide +kernel
theorem q219_136 : am_look 219 136 = some (.istore 4, 138, 4, 0, 0) := by decide +kernel
theorem q219_138 : am_look 219 138 = some (.iload_n 3, 139, 3, 0, 0) := by decide +kernel
theorem q219_139 : am_look 219 139 = some (.iload 6, 141, 6, 0, 0) := by decide +kernel
theorem q219_141 : am_look 219 141 = some (.iload_n 3, 142, 3, 0, 0) := by decide +kernel
theorem q219_142 : am_look 219 142 = some (.if_icmp .ne 7, 145, 149, 0, 0) := by decide +kernel
theorem q219_145 : am_look 219 145 = some (.iconst 1, 146, 0, 0, 1) := by decide +kernel
theorem q219_146 : am_look 219 146 = some (.goto 4, 149, 150, 0, 0) := by decide +kernel
theorem q219_149 : am_look 219 149 = some (.iconst 0, 150, 0, 0, 0) := by decide +kernel
theorem q219_150 : am_look 219 150 = some (.iadd, 151, 0, 0, 0) := by decide +kernel
theorem q219_151 : am_look 219 151 = some (.istore_n 3, 152, 3, 0, 0) := by decide +kernel
theorem q219_152 : am_look 219 152 = some (.iconst 0, 153, 0, 0, 0) := by decide +kernel
theorem q219_153 : am_look 219 153 = some (.istore 7, 155, 7, 0, 0) := by decide +kernel
theorem q219_155 : am_look 219 155 = some (.iload 7, 157, 7, 0, 0) := by decide +kernel
theorem q219_157 : am_look 219 157 = some (.iload 5, 159, 5, 0, 0) := by decide +kernel
theorem q219_159 : am_look 219 159 = some (.if_icmp .ge 48, 162, 207, 0, 0) := by decide +kernel
theorem q219_162 : am_look 219 162 = some (.iload 4, 164, 4, 0, 0) := by decide +kernel
theorem q219_164 : am_look 219 164 = some (.aload_n 0, 165, 0, 0, 0) := by decide +kernel
theorem q219_165 : am_look 219 165 = some (.getfield 73, 168, 798, 30, 0) := by decide +kernel
theorem q219_168 : am_look 219 168 = some (.bipush 20, 170, 0, 0, 20) := by decide +kernel
theorem q219_170 : am_look 219 170 = some (.iload_n 1, 171, 1, 0, 0) := by decide +kernel
theorem q219_171 : am_look 219 171 = some (.imul, 172, 0, 0, 0) := by decide +kernel
theorem q219_172 : am_look 219 172 = some (.iload 7, 174, 7, 0, 0) := by decide +kernel
theorem q219_174 : am_look 219 174 = some (.iadd, 175, 0, 0, 0) := by decide +kernel
theorem q219_175 : am_look 219 175 = some (.iaload, 176, 0, 0, 0) := by decide +kernel
theorem q219_176 : am_look 219 176 = some (.iload 6, 178, 6, 0, 0) := by decide +kernel
theorem q219_178 : am_look 219 178 = some (.if_icmp .ne 19, 181, 197, 0, 0) := by decide +kernel
theorem q219_181 : am_look 219 181 = some (.aload_n 0, 182, 0, 0, 0) := by decide +kernel
theorem q219_182 : am_look 219 182 = some (.getfield 46, 185, 785, 17, 0) := by decide +kernel
theorem q219_185 : am_look 219 185 = some (.bipush 12, 187, 0, 0, 12) := by decide +kernel
theorem q219_187 : am_look 219 187 = some (.iload 7, 189, 7, 0, 0) := by decide +kernel
theorem q219_189 : am_look 219 189 = some (.imul, 190, 0, 0, 0) := by decide +kernel
theorem q219_190 : am_look 219 190 = some (.iload 5, 192, 5, 0, 0) := by decide +kernel
theorem q219_192 : am_look 219 192 = some (.iadd, 193, 0, 0, 0) := by decide +kernel
theorem q219_193 : am_look 219 193 = some (.iaload, 194, 0, 0, 0) := by decide +kernel
theorem q219_194 : am_look 219 194 = some (.goto 4, 197, 198, 0, 0) := by decide +kernel
theorem q219_197 : am_look 219 197 = some (.iconst 0, 198, 0, 0, 0) := by decide +kernel
theorem q219_198 : am_look 219 198 = some (.iadd, 199, 0, 0, 0) := by decide +kernel
theorem q219_199 : am_look 219 199 = some (.istore 4, 201, 4, 0, 0) := by decide +kernel
theorem q219_201 : am_look 219 201 = some (.iinc 7 1, 204, 7, 0, 1) := by decide +kernel
theorem q219_204 : am_look 219 204 = some (.goto (-49), 207, 155, 0, 0) := by decide +kernel
theorem q219_207 : am_look 219 207 = some (.iinc 5 1, 210, 5, 0, 1) := by decide +kernel
theorem q219_210 : am_look 219 210 = some (.goto (-144), 213, 66, 0, 0) := by decide +kernel
theorem q219_213 : am_look 219 213 = some (.aload_n 0, 214, 0, 0, 0) := by decide +kernel
theorem q219_214 : am_look 219 214 = some (.getfield 70, 217, 797, 29, 0) := by decide +kernel
theorem q219_217 : am_look 219 217 = some (.iload_n 1, 218, 1, 0, 0) := by decide +kernel
theorem q219_218 : am_look 219 218 = some (.iaload, 219, 0, 0, 0) := by decide +kernel
theorem q219_219 : am_look 219 219 = some (.aload_n 0, 220, 0, 0, 0) := by decide +kernel
theorem q219_220 : am_look 219 220 = some (.getfield 7, 223, 768, 0, 0) := by decide +kernel
theorem q219_223 : am_look 219 223 = some (.iconst 0, 224, 0, 0, 0) := by decide +kernel
theorem q219_224 : am_look 219 224 = some (.iaload, 225, 0, 0, 0) := by decide +kernel
theorem q219_225 : am_look 219 225 = some (.if_icmp .eq 12, 228, 237, 0, 0) := by decide +kernel
theorem q219_228 : am_look 219 228 = some (.aload_n 0, 229, 0, 0, 0) := by decide +kernel
theorem q219_229 : am_look 219 229 = some (.getfield 70, 232, 797, 29, 0) := by decide +kernel
theorem q219_232 : am_look 219 232 = some (.iload_n 1, 233, 1, 0, 0) := by decide +kernel
theorem q219_233 : am_look 219 233 = some (.iaload, 234, 0, 0, 0) := by decide +kernel
theorem q219_234 : am_look 219 234 = some (.goto 15, 237, 249, 0, 0) := by decide +kernel
theorem q219_237 : am_look 219 237 = some (.iload 4, 239, 4, 0, 0) := by decide +kernel
theorem q219_239 : am_look 219 239 = some (.iload_n 2, 240, 2, 0, 0) := by decide +kernel
theorem q219_240 : am_look 219 240 = some (.if_icmp .le 8, 243, 248, 0, 0) := by decide +kernel
theorem q219_243 : am_look 219 243 = some (.bipush 100, 245, 0, 0, 100) := by decide +kernel
theorem q219_245 : am_look 219 245 = some (.goto 4, 248, 249, 0, 0) := by decide +kernel
theorem q219_248 : am_look 219 248 = some (.iconst (-1), 249, 0, 0, (-1)) := by decide +kernel
theorem q219_249 : am_look 219 249 = some (.ireturn, 250, 0, 0, 0) := by decide +kernel
theorem zb219 : am_zb 219 = false := by decide +kernel
theorem ml219 : am_ml 219 = 8 := by decide +kernel
theorem np219 : am_np 219 + (if am_sc 219 then 0 else 1) = 3 := by decide +kernel
theorem st219 {d : Nat} {h h1 : am_H} {r : Option am_V} (p0 : Nat) (a1 : Int) (a2 : Int) (H : am_x (am_cd d) 219 (fun r2 h2 => r2 = r ∧ h2 = h1) 0 0 [some (.inr (.inr p0)), some (.inl a1), some (.inl a2), none, none, none, none, none] [] h) : am_cd (d + 1) 219 [.inr (.inr p0), .inl a1, .inl a2] h r h1 := by
  refine ⟨⟨by rw [ml219]; simp [am_en], by rw [np219]; rfl⟩, ?_⟩
  rw [ml219]; exact H
theorem q220_0 : am_look 220 0 = some (.aload_n 0, 1, 0, 0, 0) := by decide +kernel
theorem q220_1 : am_look 220 1 = some (.iload_n 2, 2, 2, 0, 0) := by decide +kernel
theorem q220_2 : am_look 220 2 = some (.invokevirtual 77, 5, 204, 2, 3) := by decide +kernel
theorem q220_5 : am_look 220 5 = some (.aload_n 0, 6, 0, 0, 0) := by decide +kernel
theorem q220_6 : am_look 220 6 = some (.ldc 81, 8, 0, 0, 1000000) := by decide +kernel
theorem q220_8 : am_look 220 8 = some (.putfield 82, 11, 200, 8, 0) := by decide +kernel
theorem q220_11 : am_look 220 11 = some (.aload_n 0, 12, 0, 0, 0) := by decide +kernel
theorem q220_12 : am_look 220 12 = some (.iconst 0, 13, 0, 0, 0) := by decide +kernel
theorem q220_13 : am_look 220 13 = some (.iconst 0, 14, 0, 0, 0) := by decide +kernel
theorem q220_14 : am_look 220 14 = some (.iconst 0, 15, 0, 0, 0) := by decide +kernel
theorem q220_15 : am_look 220 15 = some (.iload_n 1, 16, 1, 0, 0) := by decide +kernel
theorem q220_16 : am_look 220 16 = some (.invokevirtual 85, 19, 141, 5, 3) := by decide +kernel
theorem q220_19 : am_look 220 19 = some (.return_, 20, 0, 0, 0) := by decide +kernel
theorem zb220 : am_zb 220 = false := by decide +kernel
theorem ml220 : am_ml 220 = 3 := by decide +kernel
theorem np220 : am_np 220 + (if am_sc 220 then 0 else 1) = 3 := by decide +kernel
theorem st220 {d : Nat} {h h1 : am_H} {r : Option am_V} (p0 : Nat) (a1 : Int) (a2 : Int) (H : am_x (am_cd d) 220 (fun r2 h2 => r2 = r ∧ h2 = h1) 0 0 [some (.inr (.inr p0)), some (.inl a1), some (.inl a2)] [] h) : am_cd (d + 1) 220 [.inr (.inr p0), .inl a1, .inl a2] h r h1 := by
  refine ⟨⟨by rw [ml220]; simp [am_en], by rw [np220]; rfl⟩, ?_⟩
  rw [ml220]; exact H
theorem q221_0 : am_look 221 0 = some (.aload_n 0, 1, 0, 0, 0) := by decide +kernel
theorem q221_1 : am_look 221 1 = some (.iload 4, 3, 4, 0, 0) := by decide +kernel
theorem q221_3 : am_look 221 3 = some (.invokevirtual 77, 6, 204, 2, 3) := by decide +kernel
theorem q221_6 : am_look 221 6 = some (.iconst 0, 7, 0, 0, 0) := by decide +kernel
theorem q221_7 : am_look 221 7 = some (.istore 5, 9, 5, 0, 0) := by decide +kernel
theorem q221_9 : am_look 221 9 = some (.iconst 0, 10, 0, 0, 0) := by decide +kernel
theorem q221_10 : am_look 221 10 = some (.istore 6, 12, 6, 0, 0) := by decide +kernel
theorem q221_12 : am_look 221 12 = some (.iconst 0, 13, 0, 0, 0) := by decide +kernel
theorem q221_13 : am_look 221 13 = some (.istore 7, 15, 7, 0, 0) := by decide +kernel
theorem q221_15 : am_look 221 15 = some (.iload 7, 17, 7, 0, 0) := by decide +kernel
theorem q221_17 : am_look 221 17 = some (.aload_n 0, 18, 0, 0, 0) := by decide +kernel
theorem q221_18 : am_look 221 18 = some (.getfield 73, 21, 201, 9, 0) := by decide +kernel
theorem q221_21 : am_look 221 21 = some (.if_icmp .ge 84, 24, 105, 0, 0) := by decide +kernel
theorem q221_24 : am_look 221 24 = some (.iload 7, 26, 7, 0, 0) := by decide +kernel
theorem q221_26 : am_look 221 26 = some (.aload_n 1, 27, 1, 0, 0) := by decide +kernel
theorem q221_27 : am_look 221 27 = some (.iload_n 2, 28, 2, 0, 0) := by decide +kernel
theorem q221_28 : am_look 221 28 = some (.invokevirtual 108, 31, 55, 2, 7) := by decide +kernel
theorem q221_31 : am_look 221 31 = some (.if_icmp .ge 74, 34, 105, 0, 0) := by decide +kernel
theorem q221_34 : am_look 221 34 = some (.aload_n 1, 35, 1, 0, 0) := by decide +kernel
theorem q221_35 : am_look 221 35 = some (.iload_n 2, 36, 2, 0, 0) := by decide +kernel
theorem q221_36 : am_look 221 36 = some (.iload 7, 38, 7, 0, 0) := by decide +kernel
theorem q221_38 : am_look 221 38 = some (.invokevirtual 114, 41, 57, 3, 7) := by decide +kernel
theorem q221_41 : am_look 221 41 = some (.istore 8, 43, 8, 0, 0) := by decide +kernel
theorem q221_43 : am_look 221 43 = some (.iload 8, 45, 8, 0, 0) := by decide +kernel
theorem q221_45 : am_look 221 45 = some (.ifCond .lt 16, 48, 61, 0, 0) := by decide +kernel
theorem q221_48 : am_look 221 48 = some (.iload 8, 50, 8, 0, 0) := by decide +kernel
theorem q221_50 : am_look 221 50 = some (.iload 5, 52, 5, 0, 0) := by decide +kernel
theorem q221_52 : am_look 221 52 = some (.if_icmp .gt 9, 55, 61, 0, 0) := by decide +kernel
theorem q221_55 : am_look 221 55 = some (.iload 8, 57, 8, 0, 0) := by decide +kernel
theorem q221_57 : am_look 221 57 = some (.iconst 4, 58, 0, 0, 4) := by decide +kernel
theorem q221_58 : am_look 221 58 = some (.if_icmp .lt 6, 61, 64, 0, 0) := by decide +kernel
theorem q221_61 : am_look 221 61 = some (.iload 7, 63, 7, 0, 0) := by decide +kernel
theorem q221_63 : am_look 221 63 = some (.ireturn, 64, 0, 0, 0) := by decide +kernel
theorem q221_64 : am_look 221 64 = some (.iload 6, 66, 6, 0, 0) := by decide +kernel
theorem q221_66 : am_look 221 66 = some (.aload_n 0, 67, 0, 0, 0) := by decide +kernel
theorem q221_67 : am_look 221 67 = some (.iload 7, 69, 7, 0, 0) := by decide +kernel
theorem q221_69 : am_look 221 69 = some (.iload 8, 71, 8, 0, 0) := by decide +kernel
theorem q221_71 : am_look 221 71 = some (.iload 5, 73, 5, 0, 0) := by decide +kernel
theorem q221_73 : am_look 221 73 = some (.invokevirtual 98, 76, 20, 4, 3) := by decide +kernel
theorem q221_76 : am_look 221 76 = some (.iadd, 77, 0, 0, 0) := by decide +kernel
theorem q221_77 : am_look 221 77 = some (.istore 6, 79, 6, 0, 0) := by decide +kernel
theorem q221_79 : am_look 221 79 = some (.aload_n 0, 80, 0, 0, 0) := by decide +kernel
theorem q221_80 : am_look 221 80 = some (.iload 7, 82, 7, 0, 0) := by decide +kernel
theorem q221_82 : am_look 221 82 = some (.iload 8, 84, 8, 0, 0) := by decide +kernel
theorem q221_84 : am_look 221 84 = some (.iconst 1, 85, 0, 0, 1) := by decide +kernel
theorem q221_85 : am_look 221 85 = some (.invokevirtual 101, 88, 19, 4, 3) := by decide +kernel
theorem q221_88 : am_look 221 88 = some (.iload 5, 90, 5, 0, 0) := by decide +kernel
theorem q221_90 : am_look 221 90 = some (.iload 8, 92, 8, 0, 0) := by decide +kernel
theorem q221_92 : am_look 221 92 = some (.iconst 1, 93, 0, 0, 1) := by decide +kernel
theorem q221_93 : am_look 221 93 = some (.iadd, 94, 0, 0, 0) := by decide +kernel
theorem q221_94 : am_look 221 94 = some (.invokestatic 105, 97, 87, 2, 99) := by decide +kernel
theorem q221_97 : am_look 221 97 = some (.istore 5, 99, 5, 0, 0) := by decide +kernel
theorem q221_99 : am_look 221 99 = some (.iinc 7 1, 102, 7, 0, 1) := by decide +kernel
theorem q221_102 : am_look 221 102 = some (.goto (-87), 105, 15, 0, 0) := by decide +kernel
theorem q221_105 : am_look 221 105 = some (.aload_n 1, 106, 1, 0, 0) := by decide +kernel
theorem q221_106 : am_look 221 106 = some (.iload_n 2, 107, 2, 0, 0) := by decide +kernel
theorem q221_107 : am_look 221 107 = some (.invokevirtual 108, 110, 55, 2, 7) := by decide +kernel
theorem q221_110 : am_look 221 110 = some (.aload_n 0, 111, 0, 0, 0) := by decide +kernel
theorem q221_111 : am_look 221 111 = some (.getfield 29, 114, 192, 0, 0) := by decide +kernel
theorem q221_114 : am_look 221 114 = some (.invokevirtual 64, 117, 36, 1, 6) := by decide +kernel
theorem q221_117 : am_look 221 117 = some (.if_icmp .eq 9, 120, 126, 0, 0) := by decide +kernel
theorem q221_120 : am_look 221 120 = some (.aload_n 1, 121, 1, 0, 0) := by decide +kernel
theorem q221_121 : am_look 221 121 = some (.iload_n 2, 122, 2, 0, 0) := by decide +kernel
theorem q221_122 : am_look 221 122 = some (.invokevirtual 108, 125, 55, 2, 7) := by decide +kernel
theorem q221_125 : am_look 221 125 = some (.ireturn, 126, 0, 0, 0) := by decide +kernel
theorem q221_126 : am_look 221 126 = some (.iload 6, 128, 6, 0, 0) := by decide +kernel
theorem q221_128 : am_look 221 128 = some (.iload_n 3, 129, 3, 0, 0) := by decide +kernel
theorem q221_129 : am_look 221 129 = some (.if_icmp .le 8, 132, 137, 0, 0) := by decide +kernel
theorem q221_132 : am_look 221 132 = some (.bipush 100, 134, 0, 0, 100) := by decide +kernel
theorem q221_134 : am_look 221 134 = some (.goto 4, 137, 138, 0, 0) := by decide +kernel
theorem q221_137 : am_look 221 137 = some (.iconst (-1), 138, 0, 0, (-1)) := by decide +kernel
theorem q221_138 : am_look 221 138 = some (.ireturn, 139, 0, 0, 0) := by decide +kernel
theorem zb221 : am_zb 221 = false := by decide +kernel
theorem ml221 : am_ml 221 = 9 := by decide +kernel
theorem np221 : am_np 221 + (if am_sc 221 then 0 else 1) = 5 := by decide +kernel
theorem st221 {d : Nat} {h h1 : am_H} {r : Option am_V} (p0 : Nat) (a1 : Nat) (a2 : Int) (a3 : Int) (a4 : Int) (H : am_x (am_cd d) 221 (fun r2 h2 => r2 = r ∧ h2 = h1) 0 0 [some (.inr (.inr p0)), some (.inr (.inr a1)), some (.inl a2), some (.inl a3), some (.inl a4), none, none, none, none] [] h) : am_cd (d + 1) 221 [.inr (.inr p0), .inr (.inr a1), .inl a2, .inl a3, .inl a4] h r h1 := by
  refine ⟨⟨by rw [ml221]; simp [am_en], by rw [np221]; rfl⟩, ?_⟩
  rw [ml221]; exact H
theorem q222_0 : am_look 222 0 = some (.aload_n 0, 1, 0, 0, 0) := by decide +kernel
theorem q222_1 : am_look 222 1 = some (.iload_n 1, 2, 1, 0, 0) := by decide +kernel
theorem q222_2 : am_look 222 2 = some (.iload_n 2, 3, 2, 0, 0) := by decide +kernel
theorem q222_3 : am_look 222 3 = some (.invokevirtual 32, 6, 207, 3, 10) := by decide +kernel
theorem q222_6 : am_look 222 6 = some (.iconst 1, 7, 0, 0, 1) := by decide +kernel
theorem q222_7 : am_look 222 7 = some (.aload_n 0, 8, 0, 0, 0) := by decide +kernel
theorem q222_8 : am_look 222 8 = some (.getfield 36, 11, 641, 1, 0) := by decide +kernel
theorem q222_11 : am_look 222 11 = some (.ishl, 12, 0, 0, 0) := by decide +kernel
theorem q222_12 : am_look 222 12 = some (.iconst 1, 13, 0, 0, 1) := by decide +kernel
theorem q222_13 : am_look 222 13 = some (.isub, 14, 0, 0, 0) := by decide +kernel
theorem q222_14 : am_look 222 14 = some (.istore_n 3, 15, 3, 0, 0) := by decide +kernel
theorem q222_15 : am_look 222 15 = some (.iload_n 3, 16, 3, 0, 0) := by decide +kernel
theorem q222_16 : am_look 222 16 = some (.istore 4, 18, 4, 0, 0) := by decide +kernel
theorem q222_18 : am_look 222 18 = some (.iload 4, 20, 4, 0, 0) := by decide +kernel
theorem q222_20 : am_look 222 20 = some (.ifCond .le 58, 23, 78, 0, 0) := by decide +kernel
theorem q222_23 : am_look 222 23 = some (.iconst 0, 24, 0, 0, 0) := by decide +kernel
theorem q222_24 : am_look 222 24 = some (.istore 5, 26, 5, 0, 0) := by decide +kernel
theorem q222_26 : am_look 222 26 = some (.iload 5, 28, 5, 0, 0) := by decide +kernel
theorem q222_28 : am_look 222 28 = some (.aload_n 0, 29, 0, 0, 0) := by decide +kernel
theorem q222_29 : am_look 222 29 = some (.getfield 36, 32, 641, 1, 0) := by decide +kernel
theorem q222_32 : am_look 222 32 = some (.if_icmp .ge 40, 35, 72, 0, 0) := by decide +kernel
theorem q222_35 : am_look 222 35 = some (.iload 4, 37, 4, 0, 0) := by decide +kernel
theorem q222_37 : am_look 222 37 = some (.iconst 1, 38, 0, 0, 1) := by decide +kernel
theorem q222_38 : am_look 222 38 = some (.iload 5, 40, 5, 0, 0) := by decide +kernel
theorem q222_40 : am_look 222 40 = some (.ishl, 41, 0, 0, 0) := by decide +kernel
theorem q222_41 : am_look 222 41 = some (.iand, 42, 0, 0, 0) := by decide +kernel
theorem q222_42 : am_look 222 42 = some (.ifCond .eq 24, 45, 66, 0, 0) := by decide +kernel
theorem q222_45 : am_look 222 45 = some (.aload_n 0, 46, 0, 0, 0) := by decide +kernel
theorem q222_46 : am_look 222 46 = some (.getfield 18, 49, 644, 4, 0) := by decide +kernel
theorem q222_49 : am_look 222 49 = some (.iload 4, 51, 4, 0, 0) := by decide +kernel
theorem q222_51 : am_look 222 51 = some (.bipush 7, 53, 0, 0, 7) := by decide +kernel
theorem q222_53 : am_look 222 53 = some (.imul, 54, 0, 0, 0) := by decide +kernel
theorem q222_54 : am_look 222 54 = some (.iload 5, 56, 5, 0, 0) := by decide +kernel
theorem q222_56 : am_look 222 56 = some (.iadd, 57, 0, 0, 0) := by decide +kernel
theorem q222_57 : am_look 222 57 = some (.aload_n 0, 58, 0, 0, 0) := by decide +kernel
theorem q222_58 : am_look 222 58 = some (.iload 4, 60, 4, 0, 0) := by decide +kernel
theorem q222_60 : am_look 222 60 = some (.iload 5, 62, 5, 0, 0) := by decide +kernel
theorem q222_62 : am_look 222 62 = some (.invokevirtual 39, 65, 152, 3, 10) := by decide +kernel
theorem q222_65 : am_look 222 65 = some (.iastore, 66, 0, 0, 0) := by decide +kernel
theorem q222_66 : am_look 222 66 = some (.iinc 5 1, 69, 5, 0, 1) := by decide +kernel
theorem q222_69 : am_look 222 69 = some (.goto (-43), 72, 26, 0, 0) := by decide +kernel
theorem q222_72 : am_look 222 72 = some (.iinc 4 (-1), 75, 4, 0, (-1)) := by decide +kernel
theorem q222_75 : am_look 222 75 = some (.goto (-57), 78, 18, 0, 0) := by decide +kernel
theorem q222_78 : am_look 222 78 = some (.aload_n 0, 79, 0, 0, 0) := by decide +kernel
theorem q222_79 : am_look 222 79 = some (.aload_n 0, 80, 0, 0, 0) := by decide +kernel
theorem q222_80 : am_look 222 80 = some (.iconst 0, 81, 0, 0, 0) := by decide +kernel
theorem q222_81 : am_look 222 81 = some (.aload_n 0, 82, 0, 0, 0) := by decide +kernel
theorem q222_82 : am_look 222 82 = some (.getfield 36, 85, 641, 1, 0) := by decide +kernel
theorem q222_85 : am_look 222 85 = some (.invokevirtual 39, 88, 152, 3, 10) := by decide +kernel
theorem q222_88 : am_look 222 88 = some (.putfield 28, 91, 646, 6, 0) := by decide +kernel
theorem q222_91 : am_look 222 91 = some (.aload_n 0, 92, 0, 0, 0) := by decide +kernel
theorem q222_92 : am_look 222 92 = some (.invokevirtual 43, 95, 153, 1, 10) := by decide +kernel
theorem q222_95 : am_look 222 95 = some (.return_, 96, 0, 0, 0) := by decide +kernel
theorem zb222 : am_zb 222 = false := by decide +kernel
theorem ml222 : am_ml 222 = 6 := by decide +kernel
theorem np222 : am_np 222 + (if am_sc 222 then 0 else 1) = 3 := by decide +kernel
theorem st222 {d : Nat} {h h1 : am_H} {r : Option am_V} (p0 : Nat) (a1 : Int) (a2 : Int) (H : am_x (am_cd d) 222 (fun r2 h2 => r2 = r ∧ h2 = h1) 0 0 [some (.inr (.inr p0)), some (.inl a1), some (.inl a2), none, none, none] [] h) : am_cd (d + 1) 222 [.inr (.inr p0), .inl a1, .inl a2] h r h1 := by
  refine ⟨⟨by rw [ml222]; simp [am_en], by rw [np222]; rfl⟩, ?_⟩
  rw [ml222]; exact H
theorem q223_0 : am_look 223 0 = some (.iload_n 1, 1, 1, 0, 0) := by decide +kernel
theorem q223_1 : am_look 223 1 = some (.invokestatic 187, 4, 72, 1, 99) := by decide +kernel
theorem q223_4 : am_look 223 4 = some (.ifCond .eq 36, 7, 40, 0, 0) := by decide +kernel
theorem q223_7 : am_look 223 7 = some (.aload_n 0, 8, 0, 0, 0) := by decide +kernel
theorem q223_8 : am_look 223 8 = some (.getfield 26, 11, 706, 2, 0) := by decide +kernel
theorem q223_11 : am_look 223 11 = some (.iload_n 2, 12, 2, 0, 0) := by decide +kernel
theorem q223_12 : am_look 223 12 = some (.invokevirtual 178, 15, 24, 2, 4) := by decide +kernel
theorem q223_15 : am_look 223 15 = some (.ifCond .eq 25, 18, 40, 0, 0) := by decide +kernel
theorem q223_18 : am_look 223 18 = some (.aload_n 0, 19, 0, 0, 0) := by decide +kernel
theorem q223_19 : am_look 223 19 = some (.getfield 26, 22, 706, 2, 0) := by decide +kernel
theorem q223_22 : am_look 223 22 = some (.iload_n 3, 23, 3, 0, 0) := by decide +kernel
theorem q223_23 : am_look 223 23 = some (.invokevirtual 178, 26, 24, 2, 4) := by decide +kernel
theorem q223_26 : am_look 223 26 = some (.ifCond .eq 14, 29, 40, 0, 0) := by decide +kernel
theorem q223_29 : am_look 223 29 = some (.iload 4, 31, 4, 0, 0) := by decide +kernel
theorem q223_31 : am_look 223 31 = some (.ifCond .lt 9, 34, 40, 0, 0) := by decide +kernel
theorem q223_34 : am_look 223 34 = some (.iload 4, 36, 4, 0, 0) := by decide +kernel
theorem q223_36 : am_look 223 36 = some (.iconst 3, 37, 0, 0, 3) := by decide +kernel
theorem q223_37 : am_look 223 37 = some (.if_icmp .le 10, 40, 47, 0, 0) := by decide +kernel
theorem q223_40 : am_look 223 40 = some (.aload_n 0, 41, 0, 0, 0) := by decide +kernel
theorem q223_41 : am_look 223 41 = some (.ldc 100, 43, 0, 0, (-100001)) := by decide +kernel
theorem q223_43 : am_look 223 43 = some (.invokevirtual 101, 46, 70, 2, 11) := by decide +kernel
theorem q223_46 : am_look 223 46 = some (.ireturn, 47, 0, 0, 0) := by decide +kernel
theorem q223_47 : am_look 223 47 = some (.iload_n 2, 48, 2, 0, 0) := by decide +kernel
theorem q223_48 : am_look 223 48 = some (.iload_n 3, 49, 3, 0, 0) := by decide +kernel
theorem q223_49 : am_look 223 49 = some (.if_icmp .ne 10, 52, 59, 0, 0) := by decide +kernel
theorem q223_52 : am_look 223 52 = some (.aload_n 0, 53, 0, 0, 0) := by decide +kernel
theorem q223_53 : am_look 223 53 = some (.ldc 122, 55, 0, 0, (-100003)) := by decide +kernel
theorem q223_55 : am_look 223 55 = some (.invokevirtual 101, 58, 70, 2, 11) := by decide +kernel
theorem q223_58 : am_look 223 58 = some (.ireturn, 59, 0, 0, 0) := by decide +kernel
theorem q223_59 : am_look 223 59 = some (.aload_n 0, 60, 0, 0, 0) := by decide +kernel
theorem q223_60 : am_look 223 60 = some (.getfield 53, 63, 709, 5, 0) := by decide +kernel
theorem q223_63 : am_look 223 63 = some (.iload_n 1, 64, 1, 0, 0) := by decide +kernel
theorem q223_64 : am_look 223 64 = some (.iload_n 2, 65, 2, 0, 0) := by decide +kernel
theorem q223_65 : am_look 223 65 = some (.iload_n 3, 66, 3, 0, 0) := by decide +kernel
theorem q223_66 : am_look 223 66 = some (.aload_n 0, 67, 0, 0, 0) := by decide +kernel
theorem q223_67 : am_look 223 67 = some (.getfield 146, 70, 716, 12, 0) := by decide +kernel
theorem q223_70 : am_look 223 70 = some (.invokevirtual 240, 73, 202, 5, 2) := by decide +kernel
theorem q223_73 : am_look 223 73 = some (.aload_n 0, 74, 0, 0, 0) := by decide +kernel
theorem q223_74 : am_look 223 74 = some (.getfield 53, 77, 709, 5, 0) := by decide +kernel
theorem q223_77 : am_look 223 77 = some (.iload 4, 79, 4, 0, 0) := by decide +kernel
theorem q223_79 : am_look 223 79 = some (.invokevirtual 244, 82, 17, 2, 2) := by decide +kernel
theorem q223_82 : am_look 223 82 = some (.ireturn, 83, 0, 0, 0) := by decide +kernel
theorem zb223 : am_zb 223 = false := by decide +kernel
theorem ml223 : am_ml 223 = 5 := by decide +kernel
theorem np223 : am_np 223 + (if am_sc 223 then 0 else 1) = 5 := by decide +kernel
theorem st223 {d : Nat} {h h1 : am_H} {r : Option am_V} (p0 : Nat) (a1 : Int) (a2 : Int) (a3 : Int) (a4 : Int) (H : am_x (am_cd d) 223 (fun r2 h2 => r2 = r ∧ h2 = h1) 0 0 [some (.inr (.inr p0)), some (.inl a1), some (.inl a2), some (.inl a3), some (.inl a4)] [] h) : am_cd (d + 1) 223 [.inr (.inr p0), .inl a1, .inl a2, .inl a3, .inl a4] h r h1 := by
  refine ⟨⟨by rw [ml223]; simp [am_en], by rw [np223]; rfl⟩, ?_⟩
  rw [ml223]; exact H
theorem q224_0 : am_look 224 0 = some (.aload_n 0, 1, 0, 0, 0) := by decide +kernel
theorem q224_1 : am_look 224 1 = some (.getfield 10, 4, 704, 0, 0) := by decide +kernel
theorem q224_4 : am_look 224 4 = some (.iload_n 1, 5, 1, 0, 0) := by decide +kernel
theorem q224_5 : am_look 224 5 = some (.invokevirtual 118, 8, 37, 2, 6) := by decide +kernel
theorem q224_8 : am_look 224 8 = some (.ifCond .eq 21, 11, 29, 0, 0) := by decide +kernel
theorem q224_11 : am_look 224 11 = some (.aload_n 0, 12, 0, 0, 0) := by decide +kernel
theorem q224_12 : am_look 224 12 = some (.getfield 10, 15, 704, 0, 0) := by decide +kernel
theorem q224_15 : am_look 224 15 = some (.iload_n 2, 16, 2, 0, 0) := by decide +kernel
theorem q224_16 : am_look 224 16 = some (.invokevirtual 118, 19, 37, 2, 6) := by decide +kernel
theorem q224_19 : am_look 224 19 = some (.ifCond .eq 10, 22, 29, 0, 0) := by decide +kernel
theorem q224_22 : am_look 224 22 = some (.iload_n 3, 23, 3, 0, 0) := by decide +kernel
theorem q224_23 : am_look 224 23 = some (.invokestatic 143, 26, 71, 1, 99) := by decide +kernel
theorem q224_26 : am_look 224 26 = some (.ifCond .ne 10, 29, 36, 0, 0) := by decide +kernel
theorem q224_29 : am_look 224 29 = some (.aload_n 0, 30, 0, 0, 0) := by decide +kernel
theorem q224_30 : am_look 224 30 = some (.ldc 100, 32, 0, 0, (-100001)) := by decide +kernel
theorem q224_32 : am_look 224 32 = some (.invokevirtual 101, 35, 70, 2, 11) := by decide +kernel
theorem q224_35 : am_look 224 35 = some (.ireturn, 36, 0, 0, 0) := by decide +kernel
theorem q224_36 : am_look 224 36 = some (.aload_n 0, 37, 0, 0, 0) := by decide +kernel
theorem q224_37 : am_look 224 37 = some (.getfield 62, 40, 710, 6, 0) := by decide +kernel
theorem q224_40 : am_look 224 40 = some (.iload_n 1, 41, 1, 0, 0) := by decide +kernel
theorem q224_41 : am_look 224 41 = some (.iload_n 2, 42, 2, 0, 0) := by decide +kernel
theorem q224_42 : am_look 224 42 = some (.iload_n 3, 43, 3, 0, 0) := by decide +kernel
theorem q224_43 : am_look 224 43 = some (.invokevirtual 246, 46, 203, 4, 3) := by decide +kernel
theorem q224_46 : am_look 224 46 = some (.ireturn, 47, 0, 0, 0) := by decide +kernel
theorem zb224 : am_zb 224 = false := by decide +kernel
theorem ml224 : am_ml 224 = 4 := by decide +kernel
theorem np224 : am_np 224 + (if am_sc 224 then 0 else 1) = 4 := by decide +kernel
theorem st224 {d : Nat} {h h1 : am_H} {r : Option am_V} (p0 : Nat) (a1 : Int) (a2 : Int) (a3 : Int) (H : am_x (am_cd d) 224 (fun r2 h2 => r2 = r ∧ h2 = h1) 0 0 [some (.inr (.inr p0)), some (.inl a1), some (.inl a2), some (.inl a3)] [] h) : am_cd (d + 1) 224 [.inr (.inr p0), .inl a1, .inl a2, .inl a3] h r h1 := by
  refine ⟨⟨by rw [ml224]; simp [am_en], by rw [np224]; rfl⟩, ?_⟩
  rw [ml224]; exact H
theorem q225_0 : am_look 225 0 = some (.iload_n 1, 1, 1, 0, 0) := by decide +kernel
theorem q225_1 : am_look 225 1 = some (.invokestatic 187, 4, 72, 1, 99) := by decide +kernel
theorem q225_4 : am_look 225 4 = some (.ifCond .ne 10, 7, 14, 0, 0) := by decide +kernel
theorem q225_7 : am_look 225 7 = some (.aload_n 0, 8, 0, 0, 0) := by decide +kernel
theorem q225_8 : am_look 225 8 = some (.ldc 100, 10, 0, 0, (-100001)) := by decide +kernel
theorem q225_10 : am_look 225 10 = some (.invokevirtual 101, 13, 70, 2, 11) := by decide +kernel
theorem q225_13 : am_look 225 13 = some (.ireturn, 14, 0, 0, 0) := by decide +kernel
theorem q225_14 : am_look 225 14 = some (.aload_n 0, 15, 0, 0, 0) := by decide +kernel
theorem q225_15 : am_look 225 15 = some (.getfield 10, 18, 704, 0, 0) := by decide +kernel
theorem q225_18 : am_look 225 18 = some (.invokevirtual 268, 21, 38, 1, 6) := by decide +kernel
theorem q225_21 : am_look 225 21 = some (.aload_n 0, 22, 0, 0, 0) := by decide +kernel
theorem q225_22 : am_look 225 22 = some (.iload_n 1, 23, 1, 0, 0) := by decide +kernel
theorem q225_23 : am_look 225 23 = some (.invokevirtual 271, 26, 189, 2, 11) := by decide +kernel
theorem q225_26 : am_look 225 26 = some (.iconst (-1), 27, 0, 0, (-1)) := by decide +kernel
theorem q225_27 : am_look 225 27 = some (.ixor, 28, 0, 0, 0) := by decide +kernel
theorem q225_28 : am_look 225 28 = some (.iand, 29, 0, 0, 0) := by decide +kernel
theorem q225_29 : am_look 225 29 = some (.istore_n 2, 30, 2, 0, 0) := by decide +kernel
theorem q225_30 : am_look 225 30 = some (.iload_n 2, 31, 2, 0, 0) := by decide +kernel
theorem q225_31 : am_look 225 31 = some (.ifCond .ne 12, 34, 43, 0, 0) := by decide +kernel
theorem q225_34 : am_look 225 34 = some (.aload_n 0, 35, 0, 0, 0) := by decide +kernel
theorem q225_35 : am_look 225 35 = some (.ldc 210, 37, 0, 0, (-100006)) := by decide +kernel
theorem q225_37 : am_look 225 37 = some (.invokevirtual 101, 40, 70, 2, 11) := by decide +kernel
theorem q225_40 : am_look 225 40 = some (.goto 8, 43, 48, 0, 0) := by decide +kernel
theorem q225_43 : am_look 225 43 = some (.aload_n 0, 44, 0, 0, 0) := by decide +kernel
theorem q225_44 : am_look 225 44 = some (.iload_n 2, 45, 2, 0, 0) := by decide +kernel
theorem q225_45 : am_look 225 45 = some (.invokevirtual 274, 48, 215, 2, 11) := by decide +kernel
theorem q225_48 : am_look 225 48 = some (.ireturn, 49, 0, 0, 0) := by decide +kernel
theorem zb225 : am_zb 225 = false := by decide +kernel
theorem ml225 : am_ml 225 = 3 := by decide +kernel
theorem np225 : am_np 225 + (if am_sc 225 then 0 else 1) = 2 := by decide +kernel
theorem st225 {d : Nat} {h h1 : am_H} {r : Option am_V} (p0 : Nat) (a1 : Int) (H : am_x (am_cd d) 225 (fun r2 h2 => r2 = r ∧ h2 = h1) 0 0 [some (.inr (.inr p0)), some (.inl a1), none] [] h) : am_cd (d + 1) 225 [.inr (.inr p0), .inl a1] h r h1 := by
  refine ⟨⟨by rw [ml225]; simp [am_en], by rw [np225]; rfl⟩, ?_⟩
  rw [ml225]; exact H
theorem q226_0 : am_look 226 0 = some (.aload_n 0, 1, 0, 0, 0) := by decide +kernel
theorem q226_1 : am_look 226 1 = some (.getfield 10, 4, 704, 0, 0) := by decide +kernel
theorem q226_4 : am_look 226 4 = some (.iload_n 1, 5, 1, 0, 0) := by decide +kernel
theorem q226_5 : am_look 226 5 = some (.invokevirtual 118, 8, 37, 2, 6) := by decide +kernel
theorem q226_8 : am_look 226 8 = some (.ifCond .eq 10, 11, 18, 0, 0) := by decide +kernel
theorem q226_11 : am_look 226 11 = some (.iload_n 2, 12, 2, 0, 0) := by decide +kernel
theorem q226_12 : am_look 226 12 = some (.invokestatic 187, 15, 72, 1, 99) := by decide +kernel
theorem q226_15 : am_look 226 15 = some (.ifCond .ne 10, 18, 25, 0, 0) := by decide +kernel
theorem q226_18 : am_look 226 18 = some (.aload_n 0, 19, 0, 0, 0) := by decide +kernel
theorem q226_19 : am_look 226 19 = some (.ldc 100, 21, 0, 0, (-100001)) := by decide +kernel
theorem q226_21 : am_look 226 21 = some (.invokevirtual 101, 24, 70, 2, 11) := by decide +kernel
theorem q226_24 : am_look 226 24 = some (.ireturn, 25, 0, 0, 0) := by decide +kernel
theorem q226_25 : am_look 226 25 = some (.aload_n 0, 26, 0, 0, 0) := by decide +kernel
theorem q226_26 : am_look 226 26 = some (.iload_n 1, 27, 1, 0, 0) := by decide +kernel
theorem q226_27 : am_look 226 27 = some (.iload_n 2, 28, 2, 0, 0) := by decide +kernel
theorem q226_28 : am_look 226 28 = some (.invokevirtual 277, 31, 216, 3, 11) := by decide +kernel
theorem q226_31 : am_look 226 31 = some (.iconst (-1), 32, 0, 0, (-1)) := by decide +kernel
theorem q226_32 : am_look 226 32 = some (.istore_n 3, 33, 3, 0, 0) := by decide +kernel
theorem q226_33 : am_look 226 33 = some (.iconst (-1), 34, 0, 0, (-1)) := by decide +kernel
theorem q226_34 : am_look 226 34 = some (.istore 4, 36, 4, 0, 0) := by decide +kernel
theorem q226_36 : am_look 226 36 = some (.iconst 0, 37, 0, 0, 0) := by decide +kernel
theorem q226_37 : am_look 226 37 = some (.istore 5, 39, 5, 0, 0) := by decide +kernel
theorem q226_39 : am_look 226 39 = some (.iload 5, 41, 5, 0, 0) := by decide +kernel
theorem q226_41 : am_look 226 41 = some (.aload_n 0, 42, 0, 0, 0) := by decide +kernel
theorem q226_42 : am_look 226 42 = some (.getfield 96, 45, 715, 11, 0) := by decide +kernel
theorem q226_45 : am_look 226 45 = some (.arraylength, 46, 0, 0, 0) := by decide +kernel
theorem q226_46 : am_look 226 46 = some (.if_icmp .ge 33, 49, 79, 0, 0) := by decide +kernel
theorem q226_49 : am_look 226 49 = some (.aload_n 0, 50, 0, 0, 0) := by decide +kernel
theorem q226_50 : am_look 226 50 = some (.getfield 96, 53, 715, 11, 0) := by decide +kernel
theorem q226_53 : am_look 226 53 = some (.iload 5, 55, 5, 0, 0) := by decide +kernel
theorem q226_55 : am_look 226 55 = some (.iaload, 56, 0, 0, 0) := by decide +kernel
theorem q226_56 : am_look 226 56 = some (.iload 4, 58, 4, 0, 0) := by decide +kernel
theorem q226_58 : am_look 226 58 = some (.if_icmp .le 15, 61, 73, 0, 0) := by decide +kernel
theorem q226_61 : am_look 226 61 = some (.aload_n 0, 62, 0, 0, 0) := by decide +kernel
theorem q226_62 : am_look 226 62 = some (.getfield 96, 65, 715, 11, 0) := by decide +kernel
theorem q226_65 : am_look 226 65 = some (.iload 5, 67, 5, 0, 0) := by decide +kernel
theorem q226_67 : am_look 226 67 = some (.iaload, 68, 0, 0, 0) := by decide +kernel
theorem q226_68 : am_look 226 68 = some (.istore 4, 70, 4, 0, 0) := by decide +kernel
theorem q226_70 : am_look 226 70 = some (.iload 5, 72, 5, 0, 0) := by decide +kernel
theorem q226_72 : am_look 226 72 = some (.istore_n 3, 73, 3, 0, 0) := by decide +kernel
theorem q226_73 : am_look 226 73 = some (.iinc 5 1, 76, 5, 0, 1) := by decide +kernel
theorem q226_76 : am_look 226 76 = some (.goto (-37), 79, 39, 0, 0) := by decide +kernel
theorem q226_79 : am_look 226 79 = some (.iload_n 3, 80, 3, 0, 0) := by decide +kernel
theorem q226_80 : am_look 226 80 = some (.iconst (-1), 81, 0, 0, (-1)) := by decide +kernel
theorem q226_81 : am_look 226 81 = some (.if_icmp .ne 12, 84, 93, 0, 0) := by decide +kernel
theorem q226_84 : am_look 226 84 = some (.aload_n 0, 85, 0, 0, 0) := by decide +kernel
theorem q226_85 : am_look 226 85 = some (.ldc 210, 87, 0, 0, (-100006)) := by decide +kernel
theorem q226_87 : am_look 226 87 = some (.invokevirtual 101, 90, 70, 2, 11) := by decide +kernel
theorem q226_90 : am_look 226 90 = some (.goto 4, 93, 94, 0, 0) := by decide +kernel
theorem q226_93 : am_look 226 93 = some (.iload_n 3, 94, 3, 0, 0) := by decide +kernel
theorem q226_94 : am_look 226 94 = some (.ireturn, 95, 0, 0, 0) := by decide +kernel
theorem zb226 : am_zb 226 = false := by decide +kernel
theorem ml226 : am_ml 226 = 6 := by decide +kernel
theorem np226 : am_np 226 + (if am_sc 226 then 0 else 1) = 3 := by decide +kernel
theorem st226 {d : Nat} {h h1 : am_H} {r : Option am_V} (p0 : Nat) (a1 : Int) (a2 : Int) (H : am_x (am_cd d) 226 (fun r2 h2 => r2 = r ∧ h2 = h1) 0 0 [some (.inr (.inr p0)), some (.inl a1), some (.inl a2), none, none, none] [] h) : am_cd (d + 1) 226 [.inr (.inr p0), .inl a1, .inl a2] h r h1 := by
  refine ⟨⟨by rw [ml226]; simp [am_en], by rw [np226]; rfl⟩, ?_⟩
  rw [ml226]; exact H
theorem q227_0 : am_look 227 0 = some (.iload_n 1, 1, 1, 0, 0) := by decide +kernel
theorem q227_1 : am_look 227 1 = some (.ifCond .lt 9, 4, 10, 0, 0) := by decide +kernel
theorem q227_4 : am_look 227 4 = some (.iload_n 1, 5, 1, 0, 0) := by decide +kernel
theorem q227_5 : am_look 227 5 = some (.bipush 30, 7, 0, 0, 30) := by decide +kernel
theorem q227_7 : am_look 227 7 = some (.if_icmp .le 10, 10, 17, 0, 0) := by decide +kernel
theorem q227_10 : am_look 227 10 = some (.aload_n 0, 11, 0, 0, 0) := by decide +kernel
theorem q227_11 : am_look 227 11 = some (.ldc 100, 13, 0, 0, (-100001)) := by decide +kernel
theorem q227_13 : am_look 227 13 = some (.invokevirtual 101, 16, 70, 2, 11) := by decide +kernel
theorem q227_16 : am_look 227 16 = some (.ireturn, 17, 0, 0, 0) := by decide +kernel
theorem q227_17 : am_look 227 17 = some (.aload_n 0, 18, 0, 0, 0) := by decide +kernel
theorem q227_18 : am_look 227 18 = some (.getfield 78, 21, 712, 8, 0) := by decide +kernel
theorem q227_21 : am_look 227 21 = some (.iload_n 1, 22, 1, 0, 0) := by decide +kernel
theorem q227_22 : am_look 227 22 = some (.invokevirtual 306, 25, 206, 2, 8) := by decide +kernel
theorem q227_25 : am_look 227 25 = some (.istore_n 2, 26, 2, 0, 0) := by decide +kernel
theorem q227_26 : am_look 227 26 = some (.iload_n 2, 27, 2, 0, 0) := by decide +kernel
theorem q227_27 : am_look 227 27 = some (.iconst (-1), 28, 0, 0, (-1)) := by decide +kernel
theorem q227_28 : am_look 227 28 = some (.if_icmp .ne 12, 31, 40, 0, 0) := by decide +kernel
theorem q227_31 : am_look 227 31 = some (.aload_n 0, 32, 0, 0, 0) := by decide +kernel
theorem q227_32 : am_look 227 32 = some (.ldc 210, 34, 0, 0, (-100006)) := by decide +kernel
theorem q227_34 : am_look 227 34 = some (.invokevirtual 101, 37, 70, 2, 11) := by decide +kernel
theorem q227_37 : am_look 227 37 = some (.goto 4, 40, 41, 0, 0) := by decide +kernel
theorem q227_40 : am_look 227 40 = some (.iload_n 2, 41, 2, 0, 0) := by decide +kernel
theorem q227_41 : am_look 227 41 = some (.ireturn, 42, 0, 0, 0) := by decide +kernel
theorem zb227 : am_zb 227 = false := by decide +kernel
theorem ml227 : am_ml 227 = 3 := by decide +kernel
theorem np227 : am_np 227 + (if am_sc 227 then 0 else 1) = 2 := by decide +kernel
theorem st227 {d : Nat} {h h1 : am_H} {r : Option am_V} (p0 : Nat) (a1 : Int) (H : am_x (am_cd d) 227 (fun r2 h2 => r2 = r ∧ h2 = h1) 0 0 [some (.inr (.inr p0)), some (.inl a1), none] [] h) : am_cd (d + 1) 227 [.inr (.inr p0), .inl a1] h r h1 := by
  refine ⟨⟨by rw [ml227]; simp [am_en], by rw [np227]; rfl⟩, ?_⟩
  rw [ml227]; exact H
theorem q228_0 : am_look 228 0 = some (.iload_n 1, 1, 1, 0, 0) := by decide +kernel
theorem q228_1 : am_look 228 1 = some (.iconst 1, 2, 0, 0, 1) := by decide +kernel
theorem q228_2 : am_look 228 2 = some (.if_icmp .lt 24, 5, 26, 0, 0) := by decide +kernel
theorem q228_5 : am_look 228 5 = some (.iload_n 1, 6, 1, 0, 0) := by decide +kernel
theorem q228_6 : am_look 228 6 = some (.iconst 4, 7, 0, 0, 4) := by decide +kernel
theorem q228_7 : am_look 228 7 = some (.if_icmp .gt 19, 10, 26, 0, 0) := by decide +kernel
theorem q228_10 : am_look 228 10 = some (.iload_n 2, 11, 2, 0, 0) := by decide +kernel
theorem q228_11 : am_look 228 11 = some (.iconst (-1), 12, 0, 0, (-1)) := by decide +kernel
theorem q228_12 : am_look 228 12 = some (.if_icmp .lt 14, 15, 26, 0, 0) := by decide +kernel
theorem q228_15 : am_look 228 15 = some (.iload_n 2, 16, 2, 0, 0) := by decide +kernel
theorem q228_16 : am_look 228 16 = some (.aload_n 0, 17, 0, 0, 0) := by decide +kernel
theorem q228_17 : am_look 228 17 = some (.getfield 10, 20, 704, 0, 0) := by decide +kernel
theorem q228_20 : am_look 228 20 = some (.invokevirtual 105, 23, 36, 1, 6) := by decide +kernel
theorem q228_23 : am_look 228 23 = some (.if_icmp .lt 10, 26, 33, 0, 0) := by decide +kernel
theorem q228_26 : am_look 228 26 = some (.aload_n 0, 27, 0, 0, 0) := by decide +kernel
theorem q228_27 : am_look 228 27 = some (.ldc 100, 29, 0, 0, (-100001)) := by decide +kernel
theorem q228_29 : am_look 228 29 = some (.invokevirtual 101, 32, 70, 2, 11) := by decide +kernel
theorem q228_32 : am_look 228 32 = some (.ireturn, 33, 0, 0, 0) := by decide +kernel
theorem q228_33 : am_look 228 33 = some (.aload_n 0, 34, 0, 0, 0) := by decide +kernel
theorem q228_34 : am_look 228 34 = some (.getfield 10, 37, 704, 0, 0) := by decide +kernel
theorem q228_37 : am_look 228 37 = some (.invokevirtual 105, 40, 36, 1, 6) := by decide +kernel
theorem q228_40 : am_look 228 40 = some (.ifCond .ne 10, 43, 50, 0, 0) := by decide +kernel
theorem q228_43 : am_look 228 43 = some (.aload_n 0, 44, 0, 0, 0) := by decide +kernel
theorem q228_44 : am_look 228 44 = some (.ldc 210, 46, 0, 0, (-100006)) := by decide +kernel
theorem q228_46 : am_look 228 46 = some (.invokevirtual 101, 49, 70, 2, 11) := by decide +kernel
theorem q228_49 : am_look 228 49 = some (.ireturn, 50, 0, 0, 0) := by decide +kernel
theorem q228_50 : am_look 228 50 = some (.aload_n 0, 51, 0, 0, 0) := by decide +kernel
theorem q228_51 : am_look 228 51 = some (.getfield 10, 54, 704, 0, 0) := by decide +kernel
theorem q228_54 : am_look 228 54 = some (.invokevirtual 105, 57, 36, 1, 6) := by decide +kernel
theorem q228_57 : am_look 228 57 = some (.bipush 10, 59, 0, 0, 10) := by decide +kernel
theorem q228_59 : am_look 228 59 = some (.if_icmp .le 10, 62, 69, 0, 0) := by decide +kernel
theorem q228_62 : am_look 228 62 = some (.aload_n 0, 63, 0, 0, 0) := by decide +kernel
theorem q228_63 : am_look 228 63 = some (.ldc 122, 65, 0, 0, (-100003)) := by decide +kernel
theorem q228_65 : am_look 228 65 = some (.invokevirtual 101, 68, 70, 2, 11) := by decide +kernel
theorem q228_68 : am_look 228 68 = some (.ireturn, 69, 0, 0, 0) := by decide +kernel
theorem q228_69 : am_look 228 69 = some (.aload_n 0, 70, 0, 0, 0) := by decide +kernel
theorem q228_70 : am_look 228 70 = some (.getfield 62, 73, 710, 6, 0) := by decide +kernel
theorem q228_73 : am_look 228 73 = some (.iload_n 1, 74, 1, 0, 0) := by decide +kernel
theorem q228_74 : am_look 228 74 = some (.aload_n 0, 75, 0, 0, 0) := by decide +kernel
theorem q228_75 : am_look 228 75 = some (.getfield 146, 78, 716, 12, 0) := by decide +kernel
theorem q228_78 : am_look 228 78 = some (.invokevirtual 249, 81, 220, 3, 3) := by decide +kernel
theorem q228_81 : am_look 228 81 = some (.iload_n 2, 82, 2, 0, 0) := by decide +kernel
theorem q228_82 : am_look 228 82 = some (.ifCond .ge 13, 85, 95, 0, 0) := by decide +kernel
theorem q228_85 : am_look 228 85 = some (.aload_n 0, 86, 0, 0, 0) := by decide +kernel
theorem q228_86 : am_look 228 86 = some (.getfield 62, 89, 710, 6, 0) := by decide +kernel
theorem q228_89 : am_look 228 89 = some (.invokevirtual 252, 92, 21, 1, 3) := by decide +kernel
theorem q228_92 : am_look 228 92 = some (.goto 11, 95, 103, 0, 0) := by decide +kernel
theorem q228_95 : am_look 228 95 = some (.aload_n 0, 96, 0, 0, 0) := by decide +kernel
theorem q228_96 : am_look 228 96 = some (.getfield 62, 99, 710, 6, 0) := by decide +kernel
theorem q228_99 : am_look 228 99 = some (.iload_n 2, 100, 2, 0, 0) := by decide +kernel
theorem q228_100 : am_look 228 100 = some (.invokevirtual 255, 103, 22, 2, 3) := by decide +kernel
theorem q228_103 : am_look 228 103 = some (.ireturn, 104, 0, 0, 0) := by decide +kernel
theorem zb228 : am_zb 228 = false := by decide +kernel
theorem ml228 : am_ml 228 = 3 := by decide +kernel
theorem np228 : am_np 228 + (if am_sc 228 then 0 else 1) = 3 := by decide +kernel
theorem st228 {d : Nat} {h h1 : am_H} {r : Option am_V} (p0 : Nat) (a1 : Int) (a2 : Int) (H : am_x (am_cd d) 228 (fun r2 h2 => r2 = r ∧ h2 = h1) 0 0 [some (.inr (.inr p0)), some (.inl a1), some (.inl a2)] [] h) : am_cd (d + 1) 228 [.inr (.inr p0), .inl a1, .inl a2] h r h1 := by
  refine ⟨⟨by rw [ml228]; simp [am_en], by rw [np228]; rfl⟩, ?_⟩
  rw [ml228]; exact H
theorem q229_0 : am_look 229 0 = some (.iload_n 1, 1, 1, 0, 0) := by decide +kernel
theorem q229_1 : am_look 229 1 = some (.invokestatic 258, 4, 51, 1, 99) := by decide +kernel
theorem q229_4 : am_look 229 4 = some (.ifCond .ne 10, 7, 14, 0, 0) := by decide +kernel
theorem q229_7 : am_look 229 7 = some (.aload_n 0, 8, 0, 0, 0) := by decide +kernel
theorem q229_8 : am_look 229 8 = some (.ldc 100, 10, 0, 0, (-100001)) := by decide +kernel
theorem q229_10 : am_look 229 10 = some (.invokevirtual 101, 13, 70, 2, 11) := by decide +kernel
theorem q229_13 : am_look 229 13 = some (.ireturn, 14, 0, 0, 0) := by decide +kernel
theorem q229_14 : am_look 229 14 = some (.aload_n 0, 15, 0, 0, 0) := by decide +kernel
theorem q229_15 : am_look 229 15 = some (.getfield 85, 18, 713, 9, 0) := by decide +kernel
theorem q229_18 : am_look 229 18 = some (.iload_n 1, 19, 1, 0, 0) := by decide +kernel
theorem q229_19 : am_look 229 19 = some (.invokevirtual 261, 22, 53, 2, 7) := by decide +kernel
theorem q229_22 : am_look 229 22 = some (.ifCond .eq 10, 25, 32, 0, 0) := by decide +kernel
theorem q229_25 : am_look 229 25 = some (.aload_n 0, 26, 0, 0, 0) := by decide +kernel
theorem q229_26 : am_look 229 26 = some (.ldc 236, 28, 0, 0, (-100002)) := by decide +kernel
theorem q229_28 : am_look 229 28 = some (.invokevirtual 101, 31, 70, 2, 11) := by decide +kernel
theorem q229_31 : am_look 229 31 = some (.ireturn, 32, 0, 0, 0) := by decide +kernel
theorem q229_32 : am_look 229 32 = some (.aload_n 0, 33, 0, 0, 0) := by decide +kernel
theorem q229_33 : am_look 229 33 = some (.getfield 10, 36, 704, 0, 0) := by decide +kernel
theorem q229_36 : am_look 229 36 = some (.invokevirtual 105, 39, 36, 1, 6) := by decide +kernel
theorem q229_39 : am_look 229 39 = some (.bipush 10, 41, 0, 0, 10) := by decide +kernel
theorem q229_41 : am_look 229 41 = some (.if_icmp .le 10, 44, 51, 0, 0) := by decide +kernel
theorem q229_44 : am_look 229 44 = some (.aload_n 0, 45, 0, 0, 0) := by decide +kernel
theorem q229_45 : am_look 229 45 = some (.ldc 122, 47, 0, 0, (-100003)) := by decide +kernel
theorem q229_47 : am_look 229 47 = some (.invokevirtual 101, 50, 70, 2, 11) := by decide +kernel
theorem q229_50 : am_look 229 50 = some (.ireturn, 51, 0, 0, 0) := by decide +kernel
theorem q229_51 : am_look 229 51 = some (.aload_n 0, 52, 0, 0, 0) := by decide +kernel
theorem q229_52 : am_look 229 52 = some (.getfield 62, 55, 710, 6, 0) := by decide +kernel
theorem q229_55 : am_look 229 55 = some (.aload_n 0, 56, 0, 0, 0) := by decide +kernel
theorem q229_56 : am_look 229 56 = some (.getfield 85, 59, 713, 9, 0) := by decide +kernel
theorem q229_59 : am_look 229 59 = some (.iload_n 1, 60, 1, 0, 0) := by decide +kernel
theorem q229_60 : am_look 229 60 = some (.iload_n 2, 61, 2, 0, 0) := by decide +kernel
theorem q229_61 : am_look 229 61 = some (.aload_n 0, 62, 0, 0, 0) := by decide +kernel
theorem q229_62 : am_look 229 62 = some (.getfield 146, 65, 716, 12, 0) := by decide +kernel
theorem q229_65 : am_look 229 65 = some (.invokevirtual 264, 68, 221, 5, 3) := by decide +kernel
theorem q229_68 : am_look 229 68 = some (.ireturn, 69, 0, 0, 0) := by decide +kernel
theorem zb229 : am_zb 229 = false := by decide +kernel
theorem ml229 : am_ml 229 = 3 := by decide +kernel
theorem np229 : am_np 229 + (if am_sc 229 then 0 else 1) = 3 := by decide +kernel
theorem st229 {d : Nat} {h h1 : am_H} {r : Option am_V} (p0 : Nat) (a1 : Int) (a2 : Int) (H : am_x (am_cd d) 229 (fun r2 h2 => r2 = r ∧ h2 = h1) 0 0 [some (.inr (.inr p0)), some (.inl a1), some (.inl a2)] [] h) : am_cd (d + 1) 229 [.inr (.inr p0), .inl a1, .inl a2] h r h1 := by
  refine ⟨⟨by rw [ml229]; simp [am_en], by rw [np229]; rfl⟩, ?_⟩
  rw [ml229]; exact H
theorem q230_0 : am_look 230 0 = some (.aload_n 0, 1, 0, 0, 0) := by decide +kernel
theorem q230_1 : am_look 230 1 = some (.getfield 10, 4, 704, 0, 0) := by decide +kernel
theorem q230_4 : am_look 230 4 = some (.iload_n 1, 5, 1, 0, 0) := by decide +kernel
theorem q230_5 : am_look 230 5 = some (.invokevirtual 118, 8, 37, 2, 6) := by decide +kernel
theorem q230_8 : am_look 230 8 = some (.ifCond .eq 27, 11, 35, 0, 0) := by decide +kernel
theorem q230_11 : am_look 230 11 = some (.aload_n 0, 12, 0, 0, 0) := by decide +kernel
theorem q230_12 : am_look 230 12 = some (.getfield 10, 15, 704, 0, 0) := by decide +kernel
theorem q230_15 : am_look 230 15 = some (.iload_n 2, 16, 2, 0, 0) := by decide +kernel
theorem q230_16 : am_look 230 16 = some (.invokevirtual 280, 19, 98, 2, 6) := by decide +kernel
theorem q230_19 : am_look 230 19 = some (.ifCond .eq 16, 22, 35, 0, 0) := by decide +kernel
theorem q230_22 : am_look 230 22 = some (.iload_n 2, 23, 2, 0, 0) := by decide +kernel
theorem q230_23 : am_look 230 23 = some (.iconst 1, 24, 0, 0, 1) := by decide +kernel
theorem q230_24 : am_look 230 24 = some (.iload_n 1, 25, 1, 0, 0) := by decide +kernel
theorem q230_25 : am_look 230 25 = some (.ishl, 26, 0, 0, 0) := by decide +kernel
theorem q230_26 : am_look 230 26 = some (.iand, 27, 0, 0, 0) := by decide +kernel
theorem q230_27 : am_look 230 27 = some (.ifCond .ne 8, 30, 35, 0, 0) := by decide +kernel
theorem q230_30 : am_look 230 30 = some (.iload_n 3, 31, 3, 0, 0) := by decide +kernel
theorem q230_31 : am_look 230 31 = some (.iconst (-1), 32, 0, 0, (-1)) := by decide +kernel
theorem q230_32 : am_look 230 32 = some (.if_icmp .ge 10, 35, 42, 0, 0) := by decide +kernel
theorem q230_35 : am_look 230 35 = some (.aload_n 0, 36, 0, 0, 0) := by decide +kernel
theorem q230_36 : am_look 230 36 = some (.ldc 100, 38, 0, 0, (-100001)) := by decide +kernel
theorem q230_38 : am_look 230 38 = some (.invokevirtual 101, 41, 70, 2, 11) := by decide +kernel
theorem q230_41 : am_look 230 41 = some (.ireturn, 42, 0, 0, 0) := by decide +kernel
theorem q230_42 : am_look 230 42 = some (.iload_n 2, 43, 2, 0, 0) := by decide +kernel
theorem q230_43 : am_look 230 43 = some (.invokestatic 283, 46, 86, 1, 99) := by decide +kernel
theorem q230_46 : am_look 230 46 = some (.bipush 7, 48, 0, 0, 7) := by decide +kernel
theorem q230_48 : am_look 230 48 = some (.if_icmp .le 10, 51, 58, 0, 0) := by decide +kernel
theorem q230_51 : am_look 230 51 = some (.aload_n 0, 52, 0, 0, 0) := by decide +kernel
theorem q230_52 : am_look 230 52 = some (.ldc 122, 54, 0, 0, (-100003)) := by decide +kernel
theorem q230_54 : am_look 230 54 = some (.invokevirtual 101, 57, 70, 2, 11) := by decide +kernel
theorem q230_57 : am_look 230 57 = some (.ireturn, 58, 0, 0, 0) := by decide +kernel
theorem q230_58 : am_look 230 58 = some (.aload_n 0, 59, 0, 0, 0) := by decide +kernel
theorem q230_59 : am_look 230 59 = some (.getfield 10, 62, 704, 0, 0) := by decide +kernel
theorem q230_62 : am_look 230 62 = some (.iload_n 1, 63, 1, 0, 0) := by decide +kernel
theorem q230_63 : am_look 230 63 = some (.iload_n 2, 64, 2, 0, 0) := by decide +kernel
theorem q230_64 : am_look 230 64 = some (.invokevirtual 288, 67, 205, 3, 6) := by decide +kernel
theorem q230_67 : am_look 230 67 = some (.ifCond .ne 10, 70, 77, 0, 0) := by decide +kernel
theorem q230_70 : am_look 230 70 = some (.aload_n 0, 71, 0, 0, 0) := by decide +kernel
theorem q230_71 : am_look 230 71 = some (.ldc 142, 73, 0, 0, (-100008)) := by decide +kernel
theorem q230_73 : am_look 230 73 = some (.invokevirtual 101, 76, 70, 2, 11) := by decide +kernel
theorem q230_76 : am_look 230 76 = some (.ireturn, 77, 0, 0, 0) := by decide +kernel
theorem q230_77 : am_look 230 77 = some (.iload_n 3, 78, 3, 0, 0) := by decide +kernel
theorem q230_78 : am_look 230 78 = some (.iload_n 2, 79, 2, 0, 0) := by decide +kernel
theorem q230_79 : am_look 230 79 = some (.invokestatic 283, 82, 86, 1, 99) := by decide +kernel
theorem q230_82 : am_look 230 82 = some (.if_icmp .lt 10, 85, 92, 0, 0) := by decide +kernel
theorem q230_85 : am_look 230 85 = some (.aload_n 0, 86, 0, 0, 0) := by decide +kernel
theorem q230_86 : am_look 230 86 = some (.ldc 210, 88, 0, 0, (-100006)) := by decide +kernel
theorem q230_88 : am_look 230 88 = some (.invokevirtual 101, 91, 70, 2, 11) := by decide +kernel
theorem q230_91 : am_look 230 91 = some (.ireturn, 92, 0, 0, 0) := by decide +kernel
theorem q230_92 : am_look 230 92 = some (.aload_n 0, 93, 0, 0, 0) := by decide +kernel
theorem q230_93 : am_look 230 93 = some (.getfield 71, 96, 711, 7, 0) := by decide +kernel
theorem q230_96 : am_look 230 96 = some (.iload_n 1, 97, 1, 0, 0) := by decide +kernel
theorem q230_97 : am_look 230 97 = some (.iload_n 2, 98, 2, 0, 0) := by decide +kernel
theorem q230_98 : am_look 230 98 = some (.invokevirtual 291, 101, 222, 3, 10) := by decide +kernel
theorem q230_101 : am_look 230 101 = some (.iload_n 3, 102, 3, 0, 0) := by decide +kernel
theorem q230_102 : am_look 230 102 = some (.ifCond .ge 13, 105, 115, 0, 0) := by decide +kernel
theorem q230_105 : am_look 230 105 = some (.aload_n 0, 106, 0, 0, 0) := by decide +kernel
theorem q230_106 : am_look 230 106 = some (.getfield 71, 109, 711, 7, 0) := by decide +kernel
theorem q230_109 : am_look 230 109 = some (.invokevirtual 294, 112, 67, 1, 10) := by decide +kernel
theorem q230_112 : am_look 230 112 = some (.goto 11, 115, 123, 0, 0) := by decide +kernel
theorem q230_115 : am_look 230 115 = some (.aload_n 0, 116, 0, 0, 0) := by decide +kernel
theorem q230_116 : am_look 230 116 = some (.getfield 71, 119, 711, 7, 0) := by decide +kernel
theorem q230_119 : am_look 230 119 = some (.iload_n 3, 120, 3, 0, 0) := by decide +kernel
theorem q230_120 : am_look 230 120 = some (.invokevirtual 297, 123, 68, 2, 10) := by decide +kernel
theorem q230_123 : am_look 230 123 = some (.ireturn, 124, 0, 0, 0) := by decide +kernel
theorem zb230 : am_zb 230 = false := by decide +kernel
theorem ml230 : am_ml 230 = 4 := by decide +kernel
theorem np230 : am_np 230 + (if am_sc 230 then 0 else 1) = 4 := by decide +kernel
theorem st230 {d : Nat} {h h1 : am_H} {r : Option am_V} (p0 : Nat) (a1 : Int) (a2 : Int) (a3 : Int) (H : am_x (am_cd d) 230 (fun r2 h2 => r2 = r ∧ h2 = h1) 0 0 [some (.inr (.inr p0)), some (.inl a1), some (.inl a2), some (.inl a3)] [] h) : am_cd (d + 1) 230 [.inr (.inr p0), .inl a1, .inl a2, .inl a3] h r h1 := by
  refine ⟨⟨by rw [ml230]; simp [am_en], by rw [np230]; rfl⟩, ?_⟩
  rw [ml230]; exact H
theorem q231_3 : am_look 231 3 = some (.dup, 4, 0, 0, 0) := by decide +kernel
theorem q231_7 : am_look 231 7 = some (.astore_n 1, 8, 1, 0, 0) := by decide +kernel
theorem q231_11 : am_look 231 11 = some (.dup, 12, 0, 0, 0) := by decide +kernel
theorem q231_15 : am_look 231 15 = some (.astore_n 2, 16, 2, 0, 0) := by decide +kernel
theorem q231_16 : am_look 231 16 = some (.iconst 0, 17, 0, 0, 0) := by decide +kernel
theorem q231_17 : am_look 231 17 = some (.istore_n 3, 18, 3, 0, 0) := by decide +kernel
theorem q231_18 : am_look 231 18 = some (.iload_n 3, 19, 3, 0, 0) := by decide +kernel
theorem q231_19 : am_look 231 19 = some (.aload_n 0, 20, 0, 0, 0) := by decide +kernel
theorem q231_20 : am_look 231 20 = some (.arraylength, 21, 0, 0, 0) := by decide +kernel
theorem q231_21 : am_look 231 21 = some (.bipush 6, 23, 0, 0, 6) := by decide +kernel
theorem q231_23 : am_look 231 23 = some (.isub, 24, 0, 0, 0) := by decide +kernel
theorem q231_24 : am_look 231 24 = some (.if_icmp .gt 1438, 27, 1462, 0, 0) := by decide +kernel
theorem q231_27 : am_look 231 27 = some (.aload_n 0, 28, 0, 0, 0) := by decide +kernel
theorem q231_28 : am_look 231 28 = some (.iload_n 3, 29, 3, 0, 0) := by decide +kernel
theorem q231_29 : am_look 231 29 = some (.iaload, 30, 0, 0, 0) := by decide +kernel
theorem q231_30 : am_look 231 30 = some (.bipush 63, 32, 0, 0, 63) := by decide +kernel
theorem q231_32 : am_look 231 32 = some (.iand, 33, 0, 0, 0) := by decide +kernel
theorem q231_33 : am_look 231 33 = some (.tableswitch 1423 0 33 #[151, 184, 227, 260, 283, 326, 359, 422, 455, 488, 531, 554, 587, 630, 683, 746, 769, 792, 835, 878, 921, 974, 1017, 1050, 1083, 1106, 1139, 1182, 1215, 1238, 1281, 1324, 1387, 1400], 184, 0, 0, 0) := by decide +kernel
theorem q231_184 : am_look 231 184 = some (.aload_n 1, 185, 1, 0, 0) := by decide +kernel
theorem q231_185 : am_look 231 185 = some (.aload_n 0, 186, 0, 0, 0) := by decide +kernel
theorem q231_186 : am_look 231 186 = some (.iload_n 3, 187, 3, 0, 0) := by decide +kernel
theorem q231_187 : am_look 231 187 = some (.iconst 1, 188, 0, 0, 1) := by decide +kernel
theorem q231_188 : am_look 231 188 = some (.iadd, 189, 0, 0, 0) := by decide +kernel
theorem q231_189 : am_look 231 189 = some (.iaload, 190, 0, 0, 0) := by decide +kernel
theorem q231_190 : am_look 231 190 = some (.aload_n 0, 191, 0, 0, 0) := by decide +kernel
theorem q231_191 : am_look 231 191 = some (.iload_n 3, 192, 3, 0, 0) := by decide +kernel
theorem q231_192 : am_look 231 192 = some (.iconst 2, 193, 0, 0, 2) := by decide +kernel
theorem q231_193 : am_look 231 193 = some (.iadd, 194, 0, 0, 0) := by decide +kernel
theorem q231_194 : am_look 231 194 = some (.iaload, 195, 0, 0, 0) := by decide +kernel
theorem q231_195 : am_look 231 195 = some (.invokevirtual 13, 198, 154, 3, 11) := by decide +kernel
theorem q231_198 : am_look 231 198 = some (.aload_n 2, 199, 2, 0, 0) := by decide +kernel
theorem q231_199 : am_look 231 199 = some (.aload_n 0, 200, 0, 0, 0) := by decide +kernel
theorem q231_200 : am_look 231 200 = some (.iload_n 3, 201, 3, 0, 0) := by decide +kernel
theorem q231_201 : am_look 231 201 = some (.iconst 1, 202, 0, 0, 1) := by decide +kernel
theorem q231_202 : am_look 231 202 = some (.iadd, 203, 0, 0, 0) := by decide +kernel
theorem q231_203 : am_look 231 203 = some (.iaload, 204, 0, 0, 0) := by decide +kernel
theorem q231_204 : am_look 231 204 = some (.aload_n 0, 205, 0, 0, 0) := by decide +kernel
theorem q231_205 : am_look 231 205 = some (.iload_n 3, 206, 3, 0, 0) := by decide +kernel
theorem q231_206 : am_look 231 206 = some (.iconst 2, 207, 0, 0, 2) := by decide +kernel
theorem q231_207 : am_look 231 207 = some (.iadd, 208, 0, 0, 0) := by decide +kernel
theorem q231_208 : am_look 231 208 = some (.iaload, 209, 0, 0, 0) := by decide +kernel
theorem q231_209 : am_look 231 209 = some (.invokevirtual 17, 212, 119, 3, 12) := by decide +kernel
theorem q231_212 : am_look 231 212 = some (.if_icmp .eq 1244, 215, 1456, 0, 0) := by decide +kernel
theorem q231_215 : am_look 231 215 = some (.iconst 0, 216, 0, 0, 0) := by decide +kernel
theorem q231_216 : am_look 231 216 = some (.ireturn, 217, 0, 0, 0) := by decide +kernel
theorem q231_217 : am_look 231 217 = some (.aload_n 1, 218, 1, 0, 0) := by decide +kernel
theorem q231_218 : am_look 231 218 = some (.aload_n 0, 219, 0, 0, 0) := by decide +kernel
theorem q231_219 : am_look 231 219 = some (.iload_n 3, 220, 3, 0, 0) := by decide +kernel
theorem q231_220 : am_look 231 220 = some (.iconst 1, 221, 0, 0, 1) := by decide +kernel
theorem q231_221 : am_look 231 221 = some (.iadd, 222, 0, 0, 0) := by decide +kernel
theorem q231_222 : am_look 231 222 = some (.iaload, 223, 0, 0, 0) := by decide +kernel
theorem q231_223 : am_look 231 223 = some (.aload_n 0, 224, 0, 0, 0) := by decide +kernel
theorem q231_224 : am_look 231 224 = some (.iload_n 3, 225, 3, 0, 0) := by decide +kernel
theorem q231_225 : am_look 231 225 = some (.iconst 2, 226, 0, 0, 2) := by decide +kernel
theorem q231_226 : am_look 231 226 = some (.iadd, 227, 0, 0, 0) := by decide +kernel
theorem q231_227 : am_look 231 227 = some (.iaload, 228, 0, 0, 0) := by decide +kernel
theorem q231_228 : am_look 231 228 = some (.aload_n 0, 229, 0, 0, 0) := by decide +kernel
theorem q231_229 : am_look 231 229 = some (.iload_n 3, 230, 3, 0, 0) := by decide +kernel
theorem q231_230 : am_look 231 230 = some (.iconst 3, 231, 0, 0, 3) := by decide +kernel
theorem q231_231 : am_look 231 231 = some (.iadd, 232, 0, 0, 0) := by decide +kernel
theorem q231_232 : am_look 231 232 = some (.iaload, 233, 0, 0, 0) := by decide +kernel
theorem q231_233 : am_look 231 233 = some (.invokevirtual 18, 236, 155, 4, 11) := by decide +kernel
theorem q231_236 : am_look 231 236 = some (.aload_n 2, 237, 2, 0, 0) := by decide +kernel
theorem q231_237 : am_look 231 237 = some (.aload_n 0, 238, 0, 0, 0) := by decide +kernel
theorem q231_238 : am_look 231 238 = some (.iload_n 3, 239, 3, 0, 0) := by decide +kernel
theorem q231_239 : am_look 231 239 = some (.iconst 1, 240, 0, 0, 1) := by decide +kernel
theorem q231_240 : am_look 231 240 = some (.iadd, 241, 0, 0, 0) := by decide +kernel
theorem q231_241 : am_look 231 241 = some (.iaload, 242, 0, 0, 0) := by decide +kernel
theorem q231_242 : am_look 231 242 = some (.aload_n 0, 243, 0, 0, 0) := by decide +kernel
theorem q231_243 : am_look 231 243 = some (.iload_n 3, 244, 3, 0, 0) := by decide +kernel
theorem q231_244 : am_look 231 244 = some (.iconst 2, 245, 0, 0, 2) := by decide +kernel
theorem q231_245 : am_look 231 245 = some (.iadd, 246, 0, 0, 0) := by decide +kernel
theorem q231_246 : am_look 231 246 = some (.iaload, 247, 0, 0, 0) := by decide +kernel
theorem q231_247 : am_look 231 247 = some (.aload_n 0, 248, 0, 0, 0) := by decide +kernel
theorem q231_248 : am_look 231 248 = some (.iload_n 3, 249, 3, 0, 0) := by decide +kernel
theorem q231_249 : am_look 231 249 = some (.iconst 3, 250, 0, 0, 3) := by decide +kernel
theorem q231_250 : am_look 231 250 = some (.iadd, 251, 0, 0, 0) := by decide +kernel
theorem q231_251 : am_look 231 251 = some (.iaload, 252, 0, 0, 0) := by decide +kernel
theorem q231_252 : am_look 231 252 = some (.invokevirtual 22, 255, 161, 4, 12) := by decide +kernel
theorem q231_255 : am_look 231 255 = some (.if_icmp .eq 1201, 258, 1456, 0, 0) := by decide +kernel
theorem q231_258 : am_look 231 258 = some (.iconst 0, 259, 0, 0, 0) := by decide +kernel
theorem q231_259 : am_look 231 259 = some (.ireturn, 260, 0, 0, 0) := by decide +kernel
theorem q231_260 : am_look 231 260 = some (.aload_n 1, 261, 1, 0, 0) := by decide +kernel
theorem q231_261 : am_look 231 261 = some (.aload_n 0, 262, 0, 0, 0) := by decide +kernel
theorem q231_262 : am_look 231 262 = some (.iload_n 3, 263, 3, 0, 0) := by decide +kernel
theorem q231_263 : am_look 231 263 = some (.iconst 1, 264, 0, 0, 1) := by decide +kernel
theorem q231_264 : am_look 231 264 = some (.iadd, 265, 0, 0, 0) := by decide +kernel
theorem q231_265 : am_look 231 265 = some (.iaload, 266, 0, 0, 0) := by decide +kernel
theorem q231_266 : am_look 231 266 = some (.aload_n 0, 267, 0, 0, 0) := by decide +kernel
theorem q231_267 : am_look 231 267 = some (.iload_n 3, 268, 3, 0, 0) := by decide +kernel
theorem q231_268 : am_look 231 268 = some (.iconst 2, 269, 0, 0, 2) := by decide +kernel
theorem q231_269 : am_look 231 269 = some (.iadd, 270, 0, 0, 0) := by decide +kernel
theorem q231_270 : am_look 231 270 = some (.iaload, 271, 0, 0, 0) := by decide +kernel
theorem q231_271 : am_look 231 271 = some (.invokevirtual 23, 274, 208, 3, 11) := by decide +kernel
theorem q231_274 : am_look 231 274 = some (.aload_n 2, 275, 2, 0, 0) := by decide +kernel
theorem q231_275 : am_look 231 275 = some (.aload_n 0, 276, 0, 0, 0) := by decide +kernel
theorem q231_276 : am_look 231 276 = some (.iload_n 3, 277, 3, 0, 0) := by decide +kernel
theorem q231_277 : am_look 231 277 = some (.iconst 1, 278, 0, 0, 1) := by decide +kernel
theorem q231_278 : am_look 231 278 = some (.iadd, 279, 0, 0, 0) := by decide +kernel
theorem q231_279 : am_look 231 279 = some (.iaload, 280, 0, 0, 0) := by decide +kernel
theorem q231_280 : am_look 231 280 = some (.aload_n 0, 281, 0, 0, 0) := by decide +kernel
theorem q231_281 : am_look 231 281 = some (.iload_n 3, 282, 3, 0, 0) := by decide +kernel
theorem q231_282 : am_look 231 282 = some (.iconst 2, 283, 0, 0, 2) := by decide +kernel
theorem q231_283 : am_look 231 283 = some (.iadd, 284, 0, 0, 0) := by decide +kernel
theorem q231_284 : am_look 231 284 = some (.iaload, 285, 0, 0, 0) := by decide +kernel
theorem q231_285 : am_look 231 285 = some (.invokevirtual 26, 288, 162, 3, 12) := by decide +kernel
theorem q231_288 : am_look 231 288 = some (.if_icmp .eq 1168, 291, 1456, 0, 0) := by decide +kernel
theorem q231_291 : am_look 231 291 = some (.iconst 0, 292, 0, 0, 0) := by decide +kernel
theorem q231_292 : am_look 231 292 = some (.ireturn, 293, 0, 0, 0) := by decide +kernel
theorem q231_293 : am_look 231 293 = some (.aload_n 1, 294, 1, 0, 0) := by decide +kernel
theorem q231_294 : am_look 231 294 = some (.aload_n 0, 295, 0, 0, 0) := by decide +kernel
theorem q231_295 : am_look 231 295 = some (.iload_n 3, 296, 3, 0, 0) := by decide +kernel
theorem q231_296 : am_look 231 296 = some (.iconst 1, 297, 0, 0, 1) := by decide +kernel
theorem q231_297 : am_look 231 297 = some (.iadd, 298, 0, 0, 0) := by decide +kernel
theorem q231_298 : am_look 231 298 = some (.iaload, 299, 0, 0, 0) := by decide +kernel
theorem q231_299 : am_look 231 299 = some (.invokevirtual 27, 302, 156, 2, 11) := by decide +kernel
theorem q231_302 : am_look 231 302 = some (.aload_n 2, 303, 2, 0, 0) := by decide +kernel
theorem q231_303 : am_look 231 303 = some (.aload_n 0, 304, 0, 0, 0) := by decide +kernel
theorem q231_304 : am_look 231 304 = some (.iload_n 3, 305, 3, 0, 0) := by decide +kernel
theorem q231_305 : am_look 231 305 = some (.iconst 1, 306, 0, 0, 1) := by decide +kernel
theorem q231_306 : am_look 231 306 = some (.iadd, 307, 0, 0, 0) := by decide +kernel
theorem q231_307 : am_look 231 307 = some (.iaload, 308, 0, 0, 0) := by decide +kernel
theorem q231_308 : am_look 231 308 = some (.invokevirtual 31, 311, 121, 2, 12) := by decide +kernel
theorem q231_311 : am_look 231 311 = some (.if_icmp .eq 1145, 314, 1456, 0, 0) := by decide +kernel
theorem q231_314 : am_look 231 314 = some (.iconst 0, 315, 0, 0, 0) := by decide +kernel
theorem q231_315 : am_look 231 315 = some (.ireturn, 316, 0, 0, 0) := by decide +kernel
theorem q231_316 : am_look 231 316 = some (.aload_n 1, 317, 1, 0, 0) := by decide +kernel
theorem q231_317 : am_look 231 317 = some (.aload_n 0, 318, 0, 0, 0) := by decide +kernel
theorem q231_318 : am_look 231 318 = some (.iload_n 3, 319, 3, 0, 0) := by decide +kernel
theorem q231_319 : am_look 231 319 = some (.iconst 1, 320, 0, 0, 1) := by decide +kernel
theorem q231_320 : am_look 231 320 = some (.iadd, 321, 0, 0, 0) := by decide +kernel
theorem q231_321 : am_look 231 321 = some (.iaload, 322, 0, 0, 0) := by decide +kernel
theorem q231_322 : am_look 231 322 = some (.aload_n 0, 323, 0, 0, 0) := by decide +kernel
theorem q231_323 : am_look 231 323 = some (.iload_n 3, 324, 3, 0, 0) := by decide +kernel
theorem q231_324 : am_look 231 324 = some (.iconst 2, 325, 0, 0, 2) := by decide +kernel
theorem q231_325 : am_look 231 325 = some (.iadd, 326, 0, 0, 0) := by decide +kernel
theorem q231_326 : am_look 231 326 = some (.iaload, 327, 0, 0, 0) := by decide +kernel
theorem q231_327 : am_look 231 327 = some (.aload_n 0, 328, 0, 0, 0) := by decide +kernel
theorem q231_328 : am_look 231 328 = some (.iload_n 3, 329, 3, 0, 0) := by decide +kernel
theorem q231_329 : am_look 231 329 = some (.iconst 3, 330, 0, 0, 3) := by decide +kernel
theorem q231_330 : am_look 231 330 = some (.iadd, 331, 0, 0, 0) := by decide +kernel
theorem q231_331 : am_look 231 331 = some (.iaload, 332, 0, 0, 0) := by decide +kernel
theorem q231_332 : am_look 231 332 = some (.invokevirtual 32, 335, 157, 4, 11) := by decide +kernel
theorem q231_335 : am_look 231 335 = some (.aload_n 2, 336, 2, 0, 0) := by decide +kernel
theorem q231_336 : am_look 231 336 = some (.aload_n 0, 337, 0, 0, 0) := by decide +kernel
theorem q231_337 : am_look 231 337 = some (.iload_n 3, 338, 3, 0, 0) := by decide +kernel
theorem q231_338 : am_look 231 338 = some (.iconst 1, 339, 0, 0, 1) := by decide +kernel
theorem q231_339 : am_look 231 339 = some (.iadd, 340, 0, 0, 0) := by decide +kernel
theorem q231_340 : am_look 231 340 = some (.iaload, 341, 0, 0, 0) := by decide +kernel
theorem q231_341 : am_look 231 341 = some (.aload_n 0, 342, 0, 0, 0) := by decide +kernel
theorem q231_342 : am_look 231 342 = some (.iload_n 3, 343, 3, 0, 0) := by decide +kernel
theorem q231_343 : am_look 231 343 = some (.iconst 2, 344, 0, 0, 2) := by decide +kernel
theorem q231_344 : am_look 231 344 = some (.iadd, 345, 0, 0, 0) := by decide +kernel
theorem q231_345 : am_look 231 345 = some (.iaload, 346, 0, 0, 0) := by decide +kernel
theorem q231_346 : am_look 231 346 = some (.aload_n 0, 347, 0, 0, 0) := by decide +kernel
theorem q231_347 : am_look 231 347 = some (.iload_n 3, 348, 3, 0, 0) := by decide +kernel
theorem q231_348 : am_look 231 348 = some (.iconst 3, 349, 0, 0, 3) := by decide +kernel
theorem q231_349 : am_look 231 349 = some (.iadd, 350, 0, 0, 0) := by decide +kernel
theorem q231_350 : am_look 231 350 = some (.iaload, 351, 0, 0, 0) := by decide +kernel
theorem q231_351 : am_look 231 351 = some (.invokevirtual 35, 354, 163, 4, 12) := by decide +kernel
theorem q231_354 : am_look 231 354 = some (.if_icmp .eq 1102, 357, 1456, 0, 0) := by decide +kernel
theorem q231_357 : am_look 231 357 = some (.iconst 0, 358, 0, 0, 0) := by decide +kernel
theorem q231_358 : am_look 231 358 = some (.ireturn, 359, 0, 0, 0) := by decide +kernel
theorem q231_359 : am_look 231 359 = some (.aload_n 1, 360, 1, 0, 0) := by decide +kernel
theorem q231_360 : am_look 231 360 = some (.aload_n 0, 361, 0, 0, 0) := by decide +kernel
theorem q231_361 : am_look 231 361 = some (.iload_n 3, 362, 3, 0, 0) := by decide +kernel
theorem q231_362 : am_look 231 362 = some (.iconst 1, 363, 0, 0, 1) := by decide +kernel
theorem q231_363 : am_look 231 363 = some (.iadd, 364, 0, 0, 0) := by decide +kernel
theorem q231_364 : am_look 231 364 = some (.iaload, 365, 0, 0, 0) := by decide +kernel
theorem q231_365 : am_look 231 365 = some (.aload_n 0, 366, 0, 0, 0) := by decide +kernel
theorem q231_366 : am_look 231 366 = some (.iload_n 3, 367, 3, 0, 0) := by decide +kernel
theorem q231_367 : am_look 231 367 = some (.iconst 2, 368, 0, 0, 2) := by decide +kernel
theorem q231_368 : am_look 231 368 = some (.iadd, 369, 0, 0, 0) := by decide +kernel
theorem q231_369 : am_look 231 369 = some (.iaload, 370, 0, 0, 0) := by decide +kernel
theorem q231_370 : am_look 231 370 = some (.invokevirtual 36, 373, 106, 3, 11) := by decide +kernel
theorem q231_373 : am_look 231 373 = some (.aload_n 2, 374, 2, 0, 0) := by decide +kernel
theorem q231_374 : am_look 231 374 = some (.aload_n 0, 375, 0, 0, 0) := by decide +kernel
theorem q231_375 : am_look 231 375 = some (.iload_n 3, 376, 3, 0, 0) := by decide +kernel
theorem q231_376 : am_look 231 376 = some (.iconst 1, 377, 0, 0, 1) := by decide +kernel
theorem q231_377 : am_look 231 377 = some (.iadd, 378, 0, 0, 0) := by decide +kernel
theorem q231_378 : am_look 231 378 = some (.iaload, 379, 0, 0, 0) := by decide +kernel
theorem q231_379 : am_look 231 379 = some (.aload_n 0, 380, 0, 0, 0) := by decide +kernel
theorem q231_380 : am_look 231 380 = some (.iload_n 3, 381, 3, 0, 0) := by decide +kernel
theorem q231_381 : am_look 231 381 = some (.iconst 2, 382, 0, 0, 2) := by decide +kernel
theorem q231_382 : am_look 231 382 = some (.iadd, 383, 0, 0, 0) := by decide +kernel
theorem q231_383 : am_look 231 383 = some (.iaload, 384, 0, 0, 0) := by decide +kernel
theorem q231_384 : am_look 231 384 = some (.invokevirtual 39, 387, 122, 3, 12) := by decide +kernel
theorem q231_387 : am_look 231 387 = some (.if_icmp .eq 1069, 390, 1456, 0, 0) := by decide +kernel
theorem q231_390 : am_look 231 390 = some (.iconst 0, 391, 0, 0, 0) := by decide +kernel
theorem q231_391 : am_look 231 391 = some (.ireturn, 392, 0, 0, 0) := by decide +kernel
theorem q231_392 : am_look 231 392 = some (.aload_n 1, 393, 1, 0, 0) := by decide +kernel
theorem q231_393 : am_look 231 393 = some (.aload_n 0, 394, 0, 0, 0) := by decide +kernel
theorem q231_394 : am_look 231 394 = some (.iload_n 3, 395, 3, 0, 0) := by decide +kernel
theorem q231_395 : am_look 231 395 = some (.iconst 1, 396, 0, 0, 1) := by decide +kernel
theorem q231_396 : am_look 231 396 = some (.iadd, 397, 0, 0, 0) := by decide +kernel
theorem q231_397 : am_look 231 397 = some (.iaload, 398, 0, 0, 0) := by decide +kernel
theorem q231_398 : am_look 231 398 = some (.aload_n 0, 399, 0, 0, 0) := by decide +kernel
theorem q231_399 : am_look 231 399 = some (.iload_n 3, 400, 3, 0, 0) := by decide +kernel
theorem q231_400 : am_look 231 400 = some (.iconst 2, 401, 0, 0, 2) := by decide +kernel
theorem q231_401 : am_look 231 401 = some (.iadd, 402, 0, 0, 0) := by decide +kernel
theorem q231_402 : am_look 231 402 = some (.iaload, 403, 0, 0, 0) := by decide +kernel
theorem q231_403 : am_look 231 403 = some (.i2l, 404, 0, 0, 0) := by decide +kernel
theorem q231_404 : am_look 231 404 = some (.bipush 32, 406, 0, 0, 32) := by decide +kernel
theorem q231_406 : am_look 231 406 = some (.lshl, 407, 0, 0, 0) := by decide +kernel
theorem q231_407 : am_look 231 407 = some (.aload_n 0, 408, 0, 0, 0) := by decide +kernel
theorem q231_408 : am_look 231 408 = some (.iload_n 3, 409, 3, 0, 0) := by decide +kernel
theorem q231_409 : am_look 231 409 = some (.iconst 3, 410, 0, 0, 3) := by decide +kernel
theorem q231_410 : am_look 231 410 = some (.iadd, 411, 0, 0, 0) := by decide +kernel
theorem q231_411 : am_look 231 411 = some (.iaload, 412, 0, 0, 0) := by decide +kernel
theorem q231_412 : am_look 231 412 = some (.i2l, 413, 0, 0, 0) := by decide +kernel
theorem q231_413 : am_look 231 413 = some (.ldc2_w 40, 416, 0, 0, 4294967295) := by decide +kernel
theorem q231_416 : am_look 231 416 = some (.land, 417, 0, 0, 0) := by decide +kernel
theorem q231_417 : am_look 231 417 = some (.lor, 418, 0, 0, 0) := by decide +kernel
theorem q231_418 : am_look 231 418 = some (.invokevirtual 42, 421, 209, 3, 11) := by decide +kernel
theorem q231_421 : am_look 231 421 = some (.aload_n 2, 422, 2, 0, 0) := by decide +kernel
theorem q231_422 : am_look 231 422 = some (.aload_n 0, 423, 0, 0, 0) := by decide +kernel
theorem q231_423 : am_look 231 423 = some (.iload_n 3, 424, 3, 0, 0) := by decide +kernel
theorem q231_424 : am_look 231 424 = some (.iconst 1, 425, 0, 0, 1) := by decide +kernel
theorem q231_425 : am_look 231 425 = some (.iadd, 426, 0, 0, 0) := by decide +kernel
theorem q231_426 : am_look 231 426 = some (.iaload, 427, 0, 0, 0) := by decide +kernel
theorem q231_427 : am_look 231 427 = some (.aload_n 0, 428, 0, 0, 0) := by decide +kernel
theorem q231_428 : am_look 231 428 = some (.iload_n 3, 429, 3, 0, 0) := by decide +kernel
theorem q231_429 : am_look 231 429 = some (.iconst 2, 430, 0, 0, 2) := by decide +kernel
theorem q231_430 : am_look 231 430 = some (.iadd, 431, 0, 0, 0) := by decide +kernel
theorem q231_431 : am_look 231 431 = some (.iaload, 432, 0, 0, 0) := by decide +kernel
theorem q231_432 : am_look 231 432 = some (.i2l, 433, 0, 0, 0) := by decide +kernel
theorem q231_433 : am_look 231 433 = some (.bipush 32, 435, 0, 0, 32) := by decide +kernel
theorem q231_435 : am_look 231 435 = some (.lshl, 436, 0, 0, 0) := by decide +kernel
theorem q231_436 : am_look 231 436 = some (.aload_n 0, 437, 0, 0, 0) := by decide +kernel
theorem q231_437 : am_look 231 437 = some (.iload_n 3, 438, 3, 0, 0) := by decide +kernel
theorem q231_438 : am_look 231 438 = some (.iconst 3, 439, 0, 0, 3) := by decide +kernel
theorem q231_439 : am_look 231 439 = some (.iadd, 440, 0, 0, 0) := by decide +kernel
theorem q231_440 : am_look 231 440 = some (.iaload, 441, 0, 0, 0) := by decide +kernel
theorem q231_441 : am_look 231 441 = some (.i2l, 442, 0, 0, 0) := by decide +kernel
theorem q231_442 : am_look 231 442 = some (.ldc2_w 40, 445, 0, 0, 4294967295) := by decide +kernel
theorem q231_445 : am_look 231 445 = some (.land, 446, 0, 0, 0) := by decide +kernel
theorem q231_446 : am_look 231 446 = some (.lor, 447, 0, 0, 0) := by decide +kernel
theorem q231_447 : am_look 231 447 = some (.invokevirtual 46, 450, 123, 3, 12) := by decide +kernel
theorem q231_450 : am_look 231 450 = some (.if_icmp .eq 1006, 453, 1456, 0, 0) := by decide +kernel
theorem q231_453 : am_look 231 453 = some (.iconst 0, 454, 0, 0, 0) := by decide +kernel
theorem q231_454 : am_look 231 454 = some (.ireturn, 455, 0, 0, 0) := by decide +kernel
theorem q231_455 : am_look 231 455 = some (.aload_n 1, 456, 1, 0, 0) := by decide +kernel
theorem q231_456 : am_look 231 456 = some (.aload_n 0, 457, 0, 0, 0) := by decide +kernel
theorem q231_457 : am_look 231 457 = some (.iload_n 3, 458, 3, 0, 0) := by decide +kernel
theorem q231_458 : am_look 231 458 = some (.iconst 1, 459, 0, 0, 1) := by decide +kernel
theorem q231_459 : am_look 231 459 = some (.iadd, 460, 0, 0, 0) := by decide +kernel
theorem q231_460 : am_look 231 460 = some (.iaload, 461, 0, 0, 0) := by decide +kernel
theorem q231_461 : am_look 231 461 = some (.aload_n 0, 462, 0, 0, 0) := by decide +kernel
theorem q231_462 : am_look 231 462 = some (.iload_n 3, 463, 3, 0, 0) := by decide +kernel
theorem q231_463 : am_look 231 463 = some (.iconst 2, 464, 0, 0, 2) := by decide +kernel
theorem q231_464 : am_look 231 464 = some (.iadd, 465, 0, 0, 0) := by decide +kernel
theorem q231_465 : am_look 231 465 = some (.iaload, 466, 0, 0, 0) := by decide +kernel
theorem q231_466 : am_look 231 466 = some (.invokevirtual 47, 469, 107, 3, 11) := by decide +kernel
theorem q231_469 : am_look 231 469 = some (.aload_n 2, 470, 2, 0, 0) := by decide +kernel
theorem q231_470 : am_look 231 470 = some (.aload_n 0, 471, 0, 0, 0) := by decide +kernel
theorem q231_471 : am_look 231 471 = some (.iload_n 3, 472, 3, 0, 0) := by decide +kernel
theorem q231_472 : am_look 231 472 = some (.iconst 1, 473, 0, 0, 1) := by decide +kernel
theorem q231_473 : am_look 231 473 = some (.iadd, 474, 0, 0, 0) := by decide +kernel
theorem q231_474 : am_look 231 474 = some (.iaload, 475, 0, 0, 0) := by decide +kernel
theorem q231_475 : am_look 231 475 = some (.aload_n 0, 476, 0, 0, 0) := by decide +kernel
theorem q231_476 : am_look 231 476 = some (.iload_n 3, 477, 3, 0, 0) := by decide +kernel
theorem q231_477 : am_look 231 477 = some (.iconst 2, 478, 0, 0, 2) := by decide +kernel
theorem q231_478 : am_look 231 478 = some (.iadd, 479, 0, 0, 0) := by decide +kernel
theorem q231_479 : am_look 231 479 = some (.iaload, 480, 0, 0, 0) := by decide +kernel
theorem q231_480 : am_look 231 480 = some (.invokevirtual 50, 483, 164, 3, 12) := by decide +kernel
theorem q231_483 : am_look 231 483 = some (.if_icmp .eq 973, 486, 1456, 0, 0) := by decide +kernel
theorem q231_486 : am_look 231 486 = some (.iconst 0, 487, 0, 0, 0) := by decide +kernel
theorem q231_487 : am_look 231 487 = some (.ireturn, 488, 0, 0, 0) := by decide +kernel
theorem q231_488 : am_look 231 488 = some (.aload_n 1, 489, 1, 0, 0) := by decide +kernel
theorem q231_489 : am_look 231 489 = some (.aload_n 0, 490, 0, 0, 0) := by decide +kernel
theorem q231_490 : am_look 231 490 = some (.iload_n 3, 491, 3, 0, 0) := by decide +kernel
theorem q231_491 : am_look 231 491 = some (.iconst 1, 492, 0, 0, 1) := by decide +kernel
theorem q231_492 : am_look 231 492 = some (.iadd, 493, 0, 0, 0) := by decide +kernel
theorem q231_493 : am_look 231 493 = some (.iaload, 494, 0, 0, 0) := by decide +kernel
theorem q231_494 : am_look 231 494 = some (.aload_n 0, 495, 0, 0, 0) := by decide +kernel
theorem q231_495 : am_look 231 495 = some (.iload_n 3, 496, 3, 0, 0) := by decide +kernel
theorem q231_496 : am_look 231 496 = some (.iconst 2, 497, 0, 0, 2) := by decide +kernel
theorem q231_497 : am_look 231 497 = some (.iadd, 498, 0, 0, 0) := by decide +kernel
theorem q231_498 : am_look 231 498 = some (.iaload, 499, 0, 0, 0) := by decide +kernel
theorem q231_499 : am_look 231 499 = some (.invokevirtual 51, 502, 184, 3, 11) := by decide +kernel
theorem q231_502 : am_look 231 502 = some (.aload_n 2, 503, 2, 0, 0) := by decide +kernel
theorem q231_503 : am_look 231 503 = some (.aload_n 0, 504, 0, 0, 0) := by decide +kernel
theorem q231_504 : am_look 231 504 = some (.iload_n 3, 505, 3, 0, 0) := by decide +kernel
theorem q231_505 : am_look 231 505 = some (.iconst 1, 506, 0, 0, 1) := by decide +kernel
theorem q231_506 : am_look 231 506 = some (.iadd, 507, 0, 0, 0) := by decide +kernel
theorem q231_507 : am_look 231 507 = some (.iaload, 508, 0, 0, 0) := by decide +kernel
theorem q231_508 : am_look 231 508 = some (.aload_n 0, 509, 0, 0, 0) := by decide +kernel
theorem q231_509 : am_look 231 509 = some (.iload_n 3, 510, 3, 0, 0) := by decide +kernel
theorem q231_510 : am_look 231 510 = some (.iconst 2, 511, 0, 0, 2) := by decide +kernel
theorem q231_511 : am_look 231 511 = some (.iadd, 512, 0, 0, 0) := by decide +kernel
theorem q231_512 : am_look 231 512 = some (.iaload, 513, 0, 0, 0) := by decide +kernel
theorem q231_513 : am_look 231 513 = some (.invokevirtual 54, 516, 165, 3, 12) := by decide +kernel
theorem q231_516 : am_look 231 516 = some (.if_icmp .eq 940, 519, 1456, 0, 0) := by decide +kernel
theorem q231_519 : am_look 231 519 = some (.iconst 0, 520, 0, 0, 0) := by decide +kernel
theorem q231_520 : am_look 231 520 = some (.ireturn, 521, 0, 0, 0) := by decide +kernel
theorem q231_521 : am_look 231 521 = some (.aload_n 1, 522, 1, 0, 0) := by decide +kernel
theorem q231_522 : am_look 231 522 = some (.aload_n 0, 523, 0, 0, 0) := by decide +kernel
theorem q231_523 : am_look 231 523 = some (.iload_n 3, 524, 3, 0, 0) := by decide +kernel
theorem q231_524 : am_look 231 524 = some (.iconst 1, 525, 0, 0, 1) := by decide +kernel
theorem q231_525 : am_look 231 525 = some (.iadd, 526, 0, 0, 0) := by decide +kernel
theorem q231_526 : am_look 231 526 = some (.iaload, 527, 0, 0, 0) := by decide +kernel
theorem q231_527 : am_look 231 527 = some (.aload_n 0, 528, 0, 0, 0) := by decide +kernel
theorem q231_528 : am_look 231 528 = some (.iload_n 3, 529, 3, 0, 0) := by decide +kernel
theorem q231_529 : am_look 231 529 = some (.iconst 2, 530, 0, 0, 2) := by decide +kernel
theorem q231_530 : am_look 231 530 = some (.iadd, 531, 0, 0, 0) := by decide +kernel
theorem q231_531 : am_look 231 531 = some (.iaload, 532, 0, 0, 0) := by decide +kernel
theorem q231_532 : am_look 231 532 = some (.aload_n 0, 533, 0, 0, 0) := by decide +kernel
theorem q231_533 : am_look 231 533 = some (.iload_n 3, 534, 3, 0, 0) := by decide +kernel
theorem q231_534 : am_look 231 534 = some (.iconst 3, 535, 0, 0, 3) := by decide +kernel
theorem q231_535 : am_look 231 535 = some (.iadd, 536, 0, 0, 0) := by decide +kernel
theorem q231_536 : am_look 231 536 = some (.iaload, 537, 0, 0, 0) := by decide +kernel
theorem q231_537 : am_look 231 537 = some (.invokevirtual 55, 540, 158, 4, 11) := by decide +kernel
theorem q231_540 : am_look 231 540 = some (.aload_n 2, 541, 2, 0, 0) := by decide +kernel
theorem q231_541 : am_look 231 541 = some (.aload_n 0, 542, 0, 0, 0) := by decide +kernel
theorem q231_542 : am_look 231 542 = some (.iload_n 3, 543, 3, 0, 0) := by decide +kernel
theorem q231_543 : am_look 231 543 = some (.iconst 1, 544, 0, 0, 1) := by decide +kernel
theorem q231_544 : am_look 231 544 = some (.iadd, 545, 0, 0, 0) := by decide +kernel
theorem q231_545 : am_look 231 545 = some (.iaload, 546, 0, 0, 0) := by decide +kernel
theorem q231_546 : am_look 231 546 = some (.aload_n 0, 547, 0, 0, 0) := by decide +kernel
theorem q231_547 : am_look 231 547 = some (.iload_n 3, 548, 3, 0, 0) := by decide +kernel
theorem q231_548 : am_look 231 548 = some (.iconst 2, 549, 0, 0, 2) := by decide +kernel
theorem q231_549 : am_look 231 549 = some (.iadd, 550, 0, 0, 0) := by decide +kernel
theorem q231_550 : am_look 231 550 = some (.iaload, 551, 0, 0, 0) := by decide +kernel
theorem q231_551 : am_look 231 551 = some (.aload_n 0, 552, 0, 0, 0) := by decide +kernel
theorem q231_552 : am_look 231 552 = some (.iload_n 3, 553, 3, 0, 0) := by decide +kernel
theorem q231_553 : am_look 231 553 = some (.iconst 3, 554, 0, 0, 3) := by decide +kernel
theorem q231_554 : am_look 231 554 = some (.iadd, 555, 0, 0, 0) := by decide +kernel
theorem q231_555 : am_look 231 555 = some (.iaload, 556, 0, 0, 0) := by decide +kernel
theorem q231_556 : am_look 231 556 = some (.invokevirtual 58, 559, 166, 4, 12) := by decide +kernel
theorem q231_559 : am_look 231 559 = some (.if_icmp .eq 897, 562, 1456, 0, 0) := by decide +kernel
theorem q231_562 : am_look 231 562 = some (.iconst 0, 563, 0, 0, 0) := by decide +kernel
theorem q231_563 : am_look 231 563 = some (.ireturn, 564, 0, 0, 0) := by decide +kernel
theorem q231_564 : am_look 231 564 = some (.aload_n 1, 565, 1, 0, 0) := by decide +kernel
theorem q231_565 : am_look 231 565 = some (.aload_n 0, 566, 0, 0, 0) := by decide +kernel
theorem q231_566 : am_look 231 566 = some (.iload_n 3, 567, 3, 0, 0) := by decide +kernel
theorem q231_567 : am_look 231 567 = some (.iconst 1, 568, 0, 0, 1) := by decide +kernel
theorem q231_568 : am_look 231 568 = some (.iadd, 569, 0, 0, 0) := by decide +kernel
theorem q231_569 : am_look 231 569 = some (.iaload, 570, 0, 0, 0) := by decide +kernel
theorem q231_570 : am_look 231 570 = some (.invokevirtual 59, 573, 159, 2, 11) := by decide +kernel
theorem q231_573 : am_look 231 573 = some (.aload_n 2, 574, 2, 0, 0) := by decide +kernel
theorem q231_574 : am_look 231 574 = some (.aload_n 0, 575, 0, 0, 0) := by decide +kernel
theorem q231_575 : am_look 231 575 = some (.iload_n 3, 576, 3, 0, 0) := by decide +kernel
theorem q231_576 : am_look 231 576 = some (.iconst 1, 577, 0, 0, 1) := by decide +kernel
theorem q231_577 : am_look 231 577 = some (.iadd, 578, 0, 0, 0) := by decide +kernel
theorem q231_578 : am_look 231 578 = some (.iaload, 579, 0, 0, 0) := by decide +kernel
theorem q231_579 : am_look 231 579 = some (.invokevirtual 62, 582, 125, 2, 12) := by decide +kernel
theorem q231_582 : am_look 231 582 = some (.if_icmp .eq 874, 585, 1456, 0, 0) := by decide +kernel
theorem q231_585 : am_look 231 585 = some (.iconst 0, 586, 0, 0, 0) := by decide +kernel
theorem q231_586 : am_look 231 586 = some (.ireturn, 587, 0, 0, 0) := by decide +kernel
theorem q231_587 : am_look 231 587 = some (.aload_n 1, 588, 1, 0, 0) := by decide +kernel
theorem q231_588 : am_look 231 588 = some (.aload_n 0, 589, 0, 0, 0) := by decide +kernel
theorem q231_589 : am_look 231 589 = some (.iload_n 3, 590, 3, 0, 0) := by decide +kernel
theorem q231_590 : am_look 231 590 = some (.iconst 1, 591, 0, 0, 1) := by decide +kernel
theorem q231_591 : am_look 231 591 = some (.iadd, 592, 0, 0, 0) := by decide +kernel
theorem q231_592 : am_look 231 592 = some (.iaload, 593, 0, 0, 0) := by decide +kernel
theorem q231_593 : am_look 231 593 = some (.aload_n 0, 594, 0, 0, 0) := by decide +kernel
theorem q231_594 : am_look 231 594 = some (.iload_n 3, 595, 3, 0, 0) := by decide +kernel
theorem q231_595 : am_look 231 595 = some (.iconst 2, 596, 0, 0, 2) := by decide +kernel
theorem q231_596 : am_look 231 596 = some (.iadd, 597, 0, 0, 0) := by decide +kernel
theorem q231_597 : am_look 231 597 = some (.iaload, 598, 0, 0, 0) := by decide +kernel
theorem q231_598 : am_look 231 598 = some (.invokevirtual 63, 601, 108, 3, 11) := by decide +kernel
theorem q231_601 : am_look 231 601 = some (.aload_n 2, 602, 2, 0, 0) := by decide +kernel
theorem q231_602 : am_look 231 602 = some (.aload_n 0, 603, 0, 0, 0) := by decide +kernel
theorem q231_603 : am_look 231 603 = some (.iload_n 3, 604, 3, 0, 0) := by decide +kernel
theorem q231_604 : am_look 231 604 = some (.iconst 1, 605, 0, 0, 1) := by decide +kernel
theorem q231_605 : am_look 231 605 = some (.iadd, 606, 0, 0, 0) := by decide +kernel
theorem q231_606 : am_look 231 606 = some (.iaload, 607, 0, 0, 0) := by decide +kernel
theorem q231_607 : am_look 231 607 = some (.aload_n 0, 608, 0, 0, 0) := by decide +kernel
theorem q231_608 : am_look 231 608 = some (.iload_n 3, 609, 3, 0, 0) := by decide +kernel
theorem q231_609 : am_look 231 609 = some (.iconst 2, 610, 0, 0, 2) := by decide +kernel
theorem q231_610 : am_look 231 610 = some (.iadd, 611, 0, 0, 0) := by decide +kernel
theorem q231_611 : am_look 231 611 = some (.iaload, 612, 0, 0, 0) := by decide +kernel
theorem q231_612 : am_look 231 612 = some (.invokevirtual 66, 615, 126, 3, 12) := by decide +kernel
theorem q231_615 : am_look 231 615 = some (.if_icmp .eq 841, 618, 1456, 0, 0) := by decide +kernel
theorem q231_618 : am_look 231 618 = some (.iconst 0, 619, 0, 0, 0) := by decide +kernel
theorem q231_619 : am_look 231 619 = some (.ireturn, 620, 0, 0, 0) := by decide +kernel
theorem q231_620 : am_look 231 620 = some (.aload_n 1, 621, 1, 0, 0) := by decide +kernel
theorem q231_621 : am_look 231 621 = some (.aload_n 0, 622, 0, 0, 0) := by decide +kernel
theorem q231_622 : am_look 231 622 = some (.iload_n 3, 623, 3, 0, 0) := by decide +kernel
theorem q231_623 : am_look 231 623 = some (.iconst 1, 624, 0, 0, 1) := by decide +kernel
theorem q231_624 : am_look 231 624 = some (.iadd, 625, 0, 0, 0) := by decide +kernel
theorem q231_625 : am_look 231 625 = some (.iaload, 626, 0, 0, 0) := by decide +kernel
theorem q231_626 : am_look 231 626 = some (.aload_n 0, 627, 0, 0, 0) := by decide +kernel
theorem q231_627 : am_look 231 627 = some (.iload_n 3, 628, 3, 0, 0) := by decide +kernel
theorem q231_628 : am_look 231 628 = some (.iconst 2, 629, 0, 0, 2) := by decide +kernel
theorem q231_629 : am_look 231 629 = some (.iadd, 630, 0, 0, 0) := by decide +kernel
theorem q231_630 : am_look 231 630 = some (.iaload, 631, 0, 0, 0) := by decide +kernel
theorem q231_631 : am_look 231 631 = some (.aload_n 0, 632, 0, 0, 0) := by decide +kernel
theorem q231_632 : am_look 231 632 = some (.iload_n 3, 633, 3, 0, 0) := by decide +kernel
theorem q231_633 : am_look 231 633 = some (.iconst 3, 634, 0, 0, 3) := by decide +kernel
theorem q231_634 : am_look 231 634 = some (.iadd, 635, 0, 0, 0) := by decide +kernel
theorem q231_635 : am_look 231 635 = some (.iaload, 636, 0, 0, 0) := by decide +kernel
theorem q231_636 : am_look 231 636 = some (.invokevirtual 67, 639, 185, 4, 11) := by decide +kernel
theorem q231_639 : am_look 231 639 = some (.aload_n 2, 640, 2, 0, 0) := by decide +kernel
theorem q231_640 : am_look 231 640 = some (.aload_n 0, 641, 0, 0, 0) := by decide +kernel
theorem q231_641 : am_look 231 641 = some (.iload_n 3, 642, 3, 0, 0) := by decide +kernel
theorem q231_642 : am_look 231 642 = some (.iconst 1, 643, 0, 0, 1) := by decide +kernel
theorem q231_643 : am_look 231 643 = some (.iadd, 644, 0, 0, 0) := by decide +kernel
theorem q231_644 : am_look 231 644 = some (.iaload, 645, 0, 0, 0) := by decide +kernel
theorem q231_645 : am_look 231 645 = some (.aload_n 0, 646, 0, 0, 0) := by decide +kernel
theorem q231_646 : am_look 231 646 = some (.iload_n 3, 647, 3, 0, 0) := by decide +kernel
theorem q231_647 : am_look 231 647 = some (.iconst 2, 648, 0, 0, 2) := by decide +kernel
theorem q231_648 : am_look 231 648 = some (.iadd, 649, 0, 0, 0) := by decide +kernel
theorem q231_649 : am_look 231 649 = some (.iaload, 650, 0, 0, 0) := by decide +kernel
theorem q231_650 : am_look 231 650 = some (.aload_n 0, 651, 0, 0, 0) := by decide +kernel
theorem q231_651 : am_look 231 651 = some (.iload_n 3, 652, 3, 0, 0) := by decide +kernel
theorem q231_652 : am_look 231 652 = some (.iconst 3, 653, 0, 0, 3) := by decide +kernel
theorem q231_653 : am_look 231 653 = some (.iadd, 654, 0, 0, 0) := by decide +kernel
theorem q231_654 : am_look 231 654 = some (.iaload, 655, 0, 0, 0) := by decide +kernel
theorem q231_655 : am_look 231 655 = some (.invokevirtual 70, 658, 190, 4, 12) := by decide +kernel
theorem q231_658 : am_look 231 658 = some (.if_icmp .eq 798, 661, 1456, 0, 0) := by decide +kernel
theorem q231_661 : am_look 231 661 = some (.iconst 0, 662, 0, 0, 0) := by decide +kernel
theorem q231_662 : am_look 231 662 = some (.ireturn, 663, 0, 0, 0) := by decide +kernel
theorem q231_663 : am_look 231 663 = some (.aload_n 1, 664, 1, 0, 0) := by decide +kernel
theorem q231_664 : am_look 231 664 = some (.aload_n 0, 665, 0, 0, 0) := by decide +kernel
theorem q231_665 : am_look 231 665 = some (.iload_n 3, 666, 3, 0, 0) := by decide +kernel
theorem q231_666 : am_look 231 666 = some (.iconst 1, 667, 0, 0, 1) := by decide +kernel
theorem q231_667 : am_look 231 667 = some (.iadd, 668, 0, 0, 0) := by decide +kernel
theorem q231_668 : am_look 231 668 = some (.iaload, 669, 0, 0, 0) := by decide +kernel
theorem q231_669 : am_look 231 669 = some (.aload_n 0, 670, 0, 0, 0) := by decide +kernel
theorem q231_670 : am_look 231 670 = some (.iload_n 3, 671, 3, 0, 0) := by decide +kernel
theorem q231_671 : am_look 231 671 = some (.iconst 2, 672, 0, 0, 2) := by decide +kernel
theorem q231_672 : am_look 231 672 = some (.iadd, 673, 0, 0, 0) := by decide +kernel
theorem q231_673 : am_look 231 673 = some (.iaload, 674, 0, 0, 0) := by decide +kernel
theorem q231_674 : am_look 231 674 = some (.aload_n 0, 675, 0, 0, 0) := by decide +kernel
theorem q231_675 : am_look 231 675 = some (.iload_n 3, 676, 3, 0, 0) := by decide +kernel
theorem q231_676 : am_look 231 676 = some (.iconst 3, 677, 0, 0, 3) := by decide +kernel
theorem q231_677 : am_look 231 677 = some (.iadd, 678, 0, 0, 0) := by decide +kernel
theorem q231_678 : am_look 231 678 = some (.iaload, 679, 0, 0, 0) := by decide +kernel
theorem q231_679 : am_look 231 679 = some (.aload_n 0, 680, 0, 0, 0) := by decide +kernel
theorem q231_680 : am_look 231 680 = some (.iload_n 3, 681, 3, 0, 0) := by decide +kernel
theorem q231_681 : am_look 231 681 = some (.iconst 4, 682, 0, 0, 4) := by decide +kernel
theorem q231_682 : am_look 231 682 = some (.iadd, 683, 0, 0, 0) := by decide +kernel
theorem q231_683 : am_look 231 683 = some (.iaload, 684, 0, 0, 0) := by decide +kernel
theorem q231_684 : am_look 231 684 = some (.invokevirtual 71, 687, 186, 5, 11) := by decide +kernel
theorem q231_687 : am_look 231 687 = some (.aload_n 2, 688, 2, 0, 0) := by decide +kernel
theorem q231_688 : am_look 231 688 = some (.aload_n 0, 689, 0, 0, 0) := by decide +kernel
theorem q231_689 : am_look 231 689 = some (.iload_n 3, 690, 3, 0, 0) := by decide +kernel
theorem q231_690 : am_look 231 690 = some (.iconst 1, 691, 0, 0, 1) := by decide +kernel
theorem q231_691 : am_look 231 691 = some (.iadd, 692, 0, 0, 0) := by decide +kernel
theorem q231_692 : am_look 231 692 = some (.iaload, 693, 0, 0, 0) := by decide +kernel
theorem q231_693 : am_look 231 693 = some (.aload_n 0, 694, 0, 0, 0) := by decide +kernel
theorem q231_694 : am_look 231 694 = some (.iload_n 3, 695, 3, 0, 0) := by decide +kernel
theorem q231_695 : am_look 231 695 = some (.iconst 2, 696, 0, 0, 2) := by decide +kernel
theorem q231_696 : am_look 231 696 = some (.iadd, 697, 0, 0, 0) := by decide +kernel
theorem q231_697 : am_look 231 697 = some (.iaload, 698, 0, 0, 0) := by decide +kernel
theorem q231_698 : am_look 231 698 = some (.aload_n 0, 699, 0, 0, 0) := by decide +kernel
theorem q231_699 : am_look 231 699 = some (.iload_n 3, 700, 3, 0, 0) := by decide +kernel
theorem q231_700 : am_look 231 700 = some (.iconst 3, 701, 0, 0, 3) := by decide +kernel
theorem q231_701 : am_look 231 701 = some (.iadd, 702, 0, 0, 0) := by decide +kernel
theorem q231_702 : am_look 231 702 = some (.iaload, 703, 0, 0, 0) := by decide +kernel
theorem q231_703 : am_look 231 703 = some (.aload_n 0, 704, 0, 0, 0) := by decide +kernel
theorem q231_704 : am_look 231 704 = some (.iload_n 3, 705, 3, 0, 0) := by decide +kernel
theorem q231_705 : am_look 231 705 = some (.iconst 4, 706, 0, 0, 4) := by decide +kernel
theorem q231_706 : am_look 231 706 = some (.iadd, 707, 0, 0, 0) := by decide +kernel
theorem q231_707 : am_look 231 707 = some (.iaload, 708, 0, 0, 0) := by decide +kernel
theorem q231_708 : am_look 231 708 = some (.invokevirtual 75, 711, 191, 5, 12) := by decide +kernel
theorem q231_711 : am_look 231 711 = some (.if_icmp .eq 745, 714, 1456, 0, 0) := by decide +kernel
theorem q231_714 : am_look 231 714 = some (.iconst 0, 715, 0, 0, 0) := by decide +kernel
theorem q231_715 : am_look 231 715 = some (.ireturn, 716, 0, 0, 0) := by decide +kernel
theorem q231_716 : am_look 231 716 = some (.aload_n 1, 717, 1, 0, 0) := by decide +kernel
theorem q231_717 : am_look 231 717 = some (.aload_n 0, 718, 0, 0, 0) := by decide +kernel
theorem q231_718 : am_look 231 718 = some (.iload_n 3, 719, 3, 0, 0) := by decide +kernel
theorem q231_719 : am_look 231 719 = some (.iconst 1, 720, 0, 0, 1) := by decide +kernel
theorem q231_720 : am_look 231 720 = some (.iadd, 721, 0, 0, 0) := by decide +kernel
theorem q231_721 : am_look 231 721 = some (.iaload, 722, 0, 0, 0) := by decide +kernel
theorem q231_722 : am_look 231 722 = some (.aload_n 0, 723, 0, 0, 0) := by decide +kernel
theorem q231_723 : am_look 231 723 = some (.iload_n 3, 724, 3, 0, 0) := by decide +kernel
theorem q231_724 : am_look 231 724 = some (.iconst 2, 725, 0, 0, 2) := by decide +kernel
theorem q231_725 : am_look 231 725 = some (.iadd, 726, 0, 0, 0) := by decide +kernel
theorem q231_726 : am_look 231 726 = some (.iaload, 727, 0, 0, 0) := by decide +kernel
theorem q231_727 : am_look 231 727 = some (.i2l, 728, 0, 0, 0) := by decide +kernel
theorem q231_728 : am_look 231 728 = some (.bipush 32, 730, 0, 0, 32) := by decide +kernel
theorem q231_730 : am_look 231 730 = some (.lshl, 731, 0, 0, 0) := by decide +kernel
theorem q231_731 : am_look 231 731 = some (.aload_n 0, 732, 0, 0, 0) := by decide +kernel
theorem q231_732 : am_look 231 732 = some (.iload_n 3, 733, 3, 0, 0) := by decide +kernel
theorem q231_733 : am_look 231 733 = some (.iconst 3, 734, 0, 0, 3) := by decide +kernel
theorem q231_734 : am_look 231 734 = some (.iadd, 735, 0, 0, 0) := by decide +kernel
theorem q231_735 : am_look 231 735 = some (.iaload, 736, 0, 0, 0) := by decide +kernel
theorem q231_736 : am_look 231 736 = some (.i2l, 737, 0, 0, 0) := by decide +kernel
theorem q231_737 : am_look 231 737 = some (.ldc2_w 40, 740, 0, 0, 4294967295) := by decide +kernel
theorem q231_740 : am_look 231 740 = some (.land, 741, 0, 0, 0) := by decide +kernel
theorem q231_741 : am_look 231 741 = some (.lor, 742, 0, 0, 0) := by decide +kernel
theorem q231_742 : am_look 231 742 = some (.invokevirtual 76, 745, 109, 3, 11) := by decide +kernel
theorem q231_745 : am_look 231 745 = some (.aload_n 2, 746, 2, 0, 0) := by decide +kernel
theorem q231_746 : am_look 231 746 = some (.aload_n 0, 747, 0, 0, 0) := by decide +kernel
theorem q231_747 : am_look 231 747 = some (.iload_n 3, 748, 3, 0, 0) := by decide +kernel
theorem q231_748 : am_look 231 748 = some (.iconst 1, 749, 0, 0, 1) := by decide +kernel
theorem q231_749 : am_look 231 749 = some (.iadd, 750, 0, 0, 0) := by decide +kernel
theorem q231_750 : am_look 231 750 = some (.iaload, 751, 0, 0, 0) := by decide +kernel
theorem q231_751 : am_look 231 751 = some (.aload_n 0, 752, 0, 0, 0) := by decide +kernel
theorem q231_752 : am_look 231 752 = some (.iload_n 3, 753, 3, 0, 0) := by decide +kernel
theorem q231_753 : am_look 231 753 = some (.iconst 2, 754, 0, 0, 2) := by decide +kernel
theorem q231_754 : am_look 231 754 = some (.iadd, 755, 0, 0, 0) := by decide +kernel
theorem q231_755 : am_look 231 755 = some (.iaload, 756, 0, 0, 0) := by decide +kernel
theorem q231_756 : am_look 231 756 = some (.i2l, 757, 0, 0, 0) := by decide +kernel
theorem q231_757 : am_look 231 757 = some (.bipush 32, 759, 0, 0, 32) := by decide +kernel
theorem q231_759 : am_look 231 759 = some (.lshl, 760, 0, 0, 0) := by decide +kernel
theorem q231_760 : am_look 231 760 = some (.aload_n 0, 761, 0, 0, 0) := by decide +kernel
theorem q231_761 : am_look 231 761 = some (.iload_n 3, 762, 3, 0, 0) := by decide +kernel
theorem q231_762 : am_look 231 762 = some (.iconst 3, 763, 0, 0, 3) := by decide +kernel
theorem q231_763 : am_look 231 763 = some (.iadd, 764, 0, 0, 0) := by decide +kernel
theorem q231_764 : am_look 231 764 = some (.iaload, 765, 0, 0, 0) := by decide +kernel
theorem q231_765 : am_look 231 765 = some (.i2l, 766, 0, 0, 0) := by decide +kernel
theorem q231_766 : am_look 231 766 = some (.ldc2_w 40, 769, 0, 0, 4294967295) := by decide +kernel
theorem q231_769 : am_look 231 769 = some (.land, 770, 0, 0, 0) := by decide +kernel
theorem q231_770 : am_look 231 770 = some (.lor, 771, 0, 0, 0) := by decide +kernel
theorem q231_771 : am_look 231 771 = some (.invokevirtual 79, 774, 128, 3, 12) := by decide +kernel
theorem q231_774 : am_look 231 774 = some (.if_icmp .eq 682, 777, 1456, 0, 0) := by decide +kernel
theorem q231_777 : am_look 231 777 = some (.iconst 0, 778, 0, 0, 0) := by decide +kernel
theorem q231_778 : am_look 231 778 = some (.ireturn, 779, 0, 0, 0) := by decide +kernel
theorem q231_779 : am_look 231 779 = some (.aload_n 1, 780, 1, 0, 0) := by decide +kernel
theorem q231_780 : am_look 231 780 = some (.aload_n 0, 781, 0, 0, 0) := by decide +kernel
theorem q231_781 : am_look 231 781 = some (.iload_n 3, 782, 3, 0, 0) := by decide +kernel
theorem q231_782 : am_look 231 782 = some (.iconst 1, 783, 0, 0, 1) := by decide +kernel
theorem q231_783 : am_look 231 783 = some (.iadd, 784, 0, 0, 0) := by decide +kernel
theorem q231_784 : am_look 231 784 = some (.iaload, 785, 0, 0, 0) := by decide +kernel
theorem q231_785 : am_look 231 785 = some (.invokevirtual 80, 788, 210, 2, 11) := by decide +kernel
theorem q231_788 : am_look 231 788 = some (.aload_n 2, 789, 2, 0, 0) := by decide +kernel
theorem q231_789 : am_look 231 789 = some (.aload_n 0, 790, 0, 0, 0) := by decide +kernel
theorem q231_790 : am_look 231 790 = some (.iload_n 3, 791, 3, 0, 0) := by decide +kernel
theorem q231_791 : am_look 231 791 = some (.iconst 1, 792, 0, 0, 1) := by decide +kernel
theorem q231_792 : am_look 231 792 = some (.iadd, 793, 0, 0, 0) := by decide +kernel
theorem q231_793 : am_look 231 793 = some (.iaload, 794, 0, 0, 0) := by decide +kernel
theorem q231_794 : am_look 231 794 = some (.invokevirtual 83, 797, 192, 2, 12) := by decide +kernel
theorem q231_797 : am_look 231 797 = some (.if_icmp .eq 659, 800, 1456, 0, 0) := by decide +kernel
theorem q231_800 : am_look 231 800 = some (.iconst 0, 801, 0, 0, 0) := by decide +kernel
theorem q231_801 : am_look 231 801 = some (.ireturn, 802, 0, 0, 0) := by decide +kernel
theorem q231_802 : am_look 231 802 = some (.aload_n 1, 803, 1, 0, 0) := by decide +kernel
theorem q231_803 : am_look 231 803 = some (.aload_n 0, 804, 0, 0, 0) := by decide +kernel
theorem q231_804 : am_look 231 804 = some (.iload_n 3, 805, 3, 0, 0) := by decide +kernel
theorem q231_805 : am_look 231 805 = some (.iconst 1, 806, 0, 0, 1) := by decide +kernel
theorem q231_806 : am_look 231 806 = some (.iadd, 807, 0, 0, 0) := by decide +kernel
theorem q231_807 : am_look 231 807 = some (.iaload, 808, 0, 0, 0) := by decide +kernel
theorem q231_808 : am_look 231 808 = some (.invokevirtual 84, 811, 110, 2, 11) := by decide +kernel
theorem q231_811 : am_look 231 811 = some (.aload_n 2, 812, 2, 0, 0) := by decide +kernel
theorem q231_812 : am_look 231 812 = some (.aload_n 0, 813, 0, 0, 0) := by decide +kernel
theorem q231_813 : am_look 231 813 = some (.iload_n 3, 814, 3, 0, 0) := by decide +kernel
theorem q231_814 : am_look 231 814 = some (.iconst 1, 815, 0, 0, 1) := by decide +kernel
theorem q231_815 : am_look 231 815 = some (.iadd, 816, 0, 0, 0) := by decide +kernel
theorem q231_816 : am_look 231 816 = some (.iaload, 817, 0, 0, 0) := by decide +kernel
theorem q231_817 : am_look 231 817 = some (.invokevirtual 87, 820, 130, 2, 12) := by decide +kernel
theorem q231_820 : am_look 231 820 = some (.if_icmp .eq 636, 823, 1456, 0, 0) := by decide +kernel
theorem q231_823 : am_look 231 823 = some (.iconst 0, 824, 0, 0, 0) := by decide +kernel
theorem q231_824 : am_look 231 824 = some (.ireturn, 825, 0, 0, 0) := by decide +kernel
theorem q231_825 : am_look 231 825 = some (.aload_n 1, 826, 1, 0, 0) := by decide +kernel
theorem q231_826 : am_look 231 826 = some (.aload_n 0, 827, 0, 0, 0) := by decide +kernel
theorem q231_827 : am_look 231 827 = some (.iload_n 3, 828, 3, 0, 0) := by decide +kernel
theorem q231_828 : am_look 231 828 = some (.iconst 1, 829, 0, 0, 1) := by decide +kernel
theorem q231_829 : am_look 231 829 = some (.iadd, 830, 0, 0, 0) := by decide +kernel
theorem q231_830 : am_look 231 830 = some (.iaload, 831, 0, 0, 0) := by decide +kernel
theorem q231_831 : am_look 231 831 = some (.aload_n 0, 832, 0, 0, 0) := by decide +kernel
theorem q231_832 : am_look 231 832 = some (.iload_n 3, 833, 3, 0, 0) := by decide +kernel
theorem q231_833 : am_look 231 833 = some (.iconst 2, 834, 0, 0, 2) := by decide +kernel
theorem q231_834 : am_look 231 834 = some (.iadd, 835, 0, 0, 0) := by decide +kernel
theorem q231_835 : am_look 231 835 = some (.iaload, 836, 0, 0, 0) := by decide +kernel
theorem q231_836 : am_look 231 836 = some (.aload_n 0, 837, 0, 0, 0) := by decide +kernel
theorem q231_837 : am_look 231 837 = some (.iload_n 3, 838, 3, 0, 0) := by decide +kernel
theorem q231_838 : am_look 231 838 = some (.iconst 3, 839, 0, 0, 3) := by decide +kernel
theorem q231_839 : am_look 231 839 = some (.iadd, 840, 0, 0, 0) := by decide +kernel
theorem q231_840 : am_look 231 840 = some (.iaload, 841, 0, 0, 0) := by decide +kernel
theorem q231_841 : am_look 231 841 = some (.invokevirtual 88, 844, 187, 4, 11) := by decide +kernel
theorem q231_844 : am_look 231 844 = some (.aload_n 2, 845, 2, 0, 0) := by decide +kernel
theorem q231_845 : am_look 231 845 = some (.aload_n 0, 846, 0, 0, 0) := by decide +kernel
theorem q231_846 : am_look 231 846 = some (.iload_n 3, 847, 3, 0, 0) := by decide +kernel
theorem q231_847 : am_look 231 847 = some (.iconst 1, 848, 0, 0, 1) := by decide +kernel
theorem q231_848 : am_look 231 848 = some (.iadd, 849, 0, 0, 0) := by decide +kernel
theorem q231_849 : am_look 231 849 = some (.iaload, 850, 0, 0, 0) := by decide +kernel
theorem q231_850 : am_look 231 850 = some (.aload_n 0, 851, 0, 0, 0) := by decide +kernel
theorem q231_851 : am_look 231 851 = some (.iload_n 3, 852, 3, 0, 0) := by decide +kernel
theorem q231_852 : am_look 231 852 = some (.iconst 2, 853, 0, 0, 2) := by decide +kernel
theorem q231_853 : am_look 231 853 = some (.iadd, 854, 0, 0, 0) := by decide +kernel
theorem q231_854 : am_look 231 854 = some (.iaload, 855, 0, 0, 0) := by decide +kernel
theorem q231_855 : am_look 231 855 = some (.aload_n 0, 856, 0, 0, 0) := by decide +kernel
theorem q231_856 : am_look 231 856 = some (.iload_n 3, 857, 3, 0, 0) := by decide +kernel
theorem q231_857 : am_look 231 857 = some (.iconst 3, 858, 0, 0, 3) := by decide +kernel
theorem q231_858 : am_look 231 858 = some (.iadd, 859, 0, 0, 0) := by decide +kernel
theorem q231_859 : am_look 231 859 = some (.iaload, 860, 0, 0, 0) := by decide +kernel
theorem q231_860 : am_look 231 860 = some (.invokevirtual 91, 863, 193, 4, 12) := by decide +kernel
theorem q231_863 : am_look 231 863 = some (.if_icmp .eq 593, 866, 1456, 0, 0) := by decide +kernel
theorem q231_866 : am_look 231 866 = some (.iconst 0, 867, 0, 0, 0) := by decide +kernel
theorem q231_867 : am_look 231 867 = some (.ireturn, 868, 0, 0, 0) := by decide +kernel
theorem q231_868 : am_look 231 868 = some (.aload_n 1, 869, 1, 0, 0) := by decide +kernel
theorem q231_869 : am_look 231 869 = some (.aload_n 0, 870, 0, 0, 0) := by decide +kernel
theorem q231_870 : am_look 231 870 = some (.iload_n 3, 871, 3, 0, 0) := by decide +kernel
theorem q231_871 : am_look 231 871 = some (.iconst 1, 872, 0, 0, 1) := by decide +kernel
theorem q231_872 : am_look 231 872 = some (.iadd, 873, 0, 0, 0) := by decide +kernel
theorem q231_873 : am_look 231 873 = some (.iaload, 874, 0, 0, 0) := by decide +kernel
theorem q231_874 : am_look 231 874 = some (.aload_n 0, 875, 0, 0, 0) := by decide +kernel
theorem q231_875 : am_look 231 875 = some (.iload_n 3, 876, 3, 0, 0) := by decide +kernel
theorem q231_876 : am_look 231 876 = some (.iconst 2, 877, 0, 0, 2) := by decide +kernel
theorem q231_877 : am_look 231 877 = some (.iadd, 878, 0, 0, 0) := by decide +kernel
theorem q231_878 : am_look 231 878 = some (.iaload, 879, 0, 0, 0) := by decide +kernel
theorem q231_879 : am_look 231 879 = some (.aload_n 0, 880, 0, 0, 0) := by decide +kernel
theorem q231_880 : am_look 231 880 = some (.iload_n 3, 881, 3, 0, 0) := by decide +kernel
theorem q231_881 : am_look 231 881 = some (.iconst 3, 882, 0, 0, 3) := by decide +kernel
theorem q231_882 : am_look 231 882 = some (.iadd, 883, 0, 0, 0) := by decide +kernel
theorem q231_883 : am_look 231 883 = some (.iaload, 884, 0, 0, 0) := by decide +kernel
theorem q231_884 : am_look 231 884 = some (.invokevirtual 92, 887, 211, 4, 11) := by decide +kernel
theorem q231_887 : am_look 231 887 = some (.aload_n 2, 888, 2, 0, 0) := by decide +kernel
theorem q231_888 : am_look 231 888 = some (.aload_n 0, 889, 0, 0, 0) := by decide +kernel
theorem q231_889 : am_look 231 889 = some (.iload_n 3, 890, 3, 0, 0) := by decide +kernel
theorem q231_890 : am_look 231 890 = some (.iconst 1, 891, 0, 0, 1) := by decide +kernel
theorem q231_891 : am_look 231 891 = some (.iadd, 892, 0, 0, 0) := by decide +kernel
theorem q231_892 : am_look 231 892 = some (.iaload, 893, 0, 0, 0) := by decide +kernel
theorem q231_893 : am_look 231 893 = some (.aload_n 0, 894, 0, 0, 0) := by decide +kernel
theorem q231_894 : am_look 231 894 = some (.iload_n 3, 895, 3, 0, 0) := by decide +kernel
theorem q231_895 : am_look 231 895 = some (.iconst 2, 896, 0, 0, 2) := by decide +kernel
theorem q231_896 : am_look 231 896 = some (.iadd, 897, 0, 0, 0) := by decide +kernel
theorem q231_897 : am_look 231 897 = some (.iaload, 898, 0, 0, 0) := by decide +kernel
theorem q231_898 : am_look 231 898 = some (.aload_n 0, 899, 0, 0, 0) := by decide +kernel
theorem q231_899 : am_look 231 899 = some (.iload_n 3, 900, 3, 0, 0) := by decide +kernel
theorem q231_900 : am_look 231 900 = some (.iconst 3, 901, 0, 0, 3) := by decide +kernel
theorem q231_901 : am_look 231 901 = some (.iadd, 902, 0, 0, 0) := by decide +kernel
theorem q231_902 : am_look 231 902 = some (.iaload, 903, 0, 0, 0) := by decide +kernel
theorem q231_903 : am_look 231 903 = some (.invokevirtual 95, 906, 194, 4, 12) := by decide +kernel
theorem q231_906 : am_look 231 906 = some (.if_icmp .eq 550, 909, 1456, 0, 0) := by decide +kernel
theorem q231_909 : am_look 231 909 = some (.iconst 0, 910, 0, 0, 0) := by decide +kernel
theorem q231_910 : am_look 231 910 = some (.ireturn, 911, 0, 0, 0) := by decide +kernel
theorem q231_911 : am_look 231 911 = some (.aload_n 1, 912, 1, 0, 0) := by decide +kernel
theorem q231_912 : am_look 231 912 = some (.aload_n 0, 913, 0, 0, 0) := by decide +kernel
theorem q231_913 : am_look 231 913 = some (.iload_n 3, 914, 3, 0, 0) := by decide +kernel
theorem q231_914 : am_look 231 914 = some (.iconst 1, 915, 0, 0, 1) := by decide +kernel
theorem q231_915 : am_look 231 915 = some (.iadd, 916, 0, 0, 0) := by decide +kernel
theorem q231_916 : am_look 231 916 = some (.iaload, 917, 0, 0, 0) := by decide +kernel
theorem q231_917 : am_look 231 917 = some (.aload_n 0, 918, 0, 0, 0) := by decide +kernel
theorem q231_918 : am_look 231 918 = some (.iload_n 3, 919, 3, 0, 0) := by decide +kernel
theorem q231_919 : am_look 231 919 = some (.iconst 2, 920, 0, 0, 2) := by decide +kernel
theorem q231_920 : am_look 231 920 = some (.iadd, 921, 0, 0, 0) := by decide +kernel
theorem q231_921 : am_look 231 921 = some (.iaload, 922, 0, 0, 0) := by decide +kernel
theorem q231_922 : am_look 231 922 = some (.aload_n 0, 923, 0, 0, 0) := by decide +kernel
theorem q231_923 : am_look 231 923 = some (.iload_n 3, 924, 3, 0, 0) := by decide +kernel
theorem q231_924 : am_look 231 924 = some (.iconst 3, 925, 0, 0, 3) := by decide +kernel
theorem q231_925 : am_look 231 925 = some (.iadd, 926, 0, 0, 0) := by decide +kernel
theorem q231_926 : am_look 231 926 = some (.iaload, 927, 0, 0, 0) := by decide +kernel
theorem q231_927 : am_look 231 927 = some (.invokevirtual 96, 930, 212, 4, 11) := by decide +kernel
theorem q231_930 : am_look 231 930 = some (.aload_n 2, 931, 2, 0, 0) := by decide +kernel
theorem q231_931 : am_look 231 931 = some (.aload_n 0, 932, 0, 0, 0) := by decide +kernel
theorem q231_932 : am_look 231 932 = some (.iload_n 3, 933, 3, 0, 0) := by decide +kernel
theorem q231_933 : am_look 231 933 = some (.iconst 1, 934, 0, 0, 1) := by decide +kernel
theorem q231_934 : am_look 231 934 = some (.iadd, 935, 0, 0, 0) := by decide +kernel
theorem q231_935 : am_look 231 935 = some (.iaload, 936, 0, 0, 0) := by decide +kernel
theorem q231_936 : am_look 231 936 = some (.aload_n 0, 937, 0, 0, 0) := by decide +kernel
theorem q231_937 : am_look 231 937 = some (.iload_n 3, 938, 3, 0, 0) := by decide +kernel
theorem q231_938 : am_look 231 938 = some (.iconst 2, 939, 0, 0, 2) := by decide +kernel
theorem q231_939 : am_look 231 939 = some (.iadd, 940, 0, 0, 0) := by decide +kernel
theorem q231_940 : am_look 231 940 = some (.iaload, 941, 0, 0, 0) := by decide +kernel
theorem q231_941 : am_look 231 941 = some (.aload_n 0, 942, 0, 0, 0) := by decide +kernel
theorem q231_942 : am_look 231 942 = some (.iload_n 3, 943, 3, 0, 0) := by decide +kernel
theorem q231_943 : am_look 231 943 = some (.iconst 3, 944, 0, 0, 3) := by decide +kernel
theorem q231_944 : am_look 231 944 = some (.iadd, 945, 0, 0, 0) := by decide +kernel
theorem q231_945 : am_look 231 945 = some (.iaload, 946, 0, 0, 0) := by decide +kernel
theorem q231_946 : am_look 231 946 = some (.invokevirtual 99, 949, 195, 4, 12) := by decide +kernel
theorem q231_949 : am_look 231 949 = some (.if_icmp .eq 507, 952, 1456, 0, 0) := by decide +kernel
theorem q231_952 : am_look 231 952 = some (.iconst 0, 953, 0, 0, 0) := by decide +kernel
theorem q231_953 : am_look 231 953 = some (.ireturn, 954, 0, 0, 0) := by decide +kernel
theorem q231_954 : am_look 231 954 = some (.aload_n 1, 955, 1, 0, 0) := by decide +kernel
theorem q231_955 : am_look 231 955 = some (.aload_n 0, 956, 0, 0, 0) := by decide +kernel
theorem q231_956 : am_look 231 956 = some (.iload_n 3, 957, 3, 0, 0) := by decide +kernel
theorem q231_957 : am_look 231 957 = some (.iconst 1, 958, 0, 0, 1) := by decide +kernel
theorem q231_958 : am_look 231 958 = some (.iadd, 959, 0, 0, 0) := by decide +kernel
theorem q231_959 : am_look 231 959 = some (.iaload, 960, 0, 0, 0) := by decide +kernel
theorem q231_960 : am_look 231 960 = some (.aload_n 0, 961, 0, 0, 0) := by decide +kernel
theorem q231_961 : am_look 231 961 = some (.iload_n 3, 962, 3, 0, 0) := by decide +kernel
theorem q231_962 : am_look 231 962 = some (.iconst 2, 963, 0, 0, 2) := by decide +kernel
theorem q231_963 : am_look 231 963 = some (.iadd, 964, 0, 0, 0) := by decide +kernel
theorem q231_964 : am_look 231 964 = some (.iaload, 965, 0, 0, 0) := by decide +kernel
theorem q231_965 : am_look 231 965 = some (.aload_n 0, 966, 0, 0, 0) := by decide +kernel
theorem q231_966 : am_look 231 966 = some (.iload_n 3, 967, 3, 0, 0) := by decide +kernel
theorem q231_967 : am_look 231 967 = some (.iconst 3, 968, 0, 0, 3) := by decide +kernel
theorem q231_968 : am_look 231 968 = some (.iadd, 969, 0, 0, 0) := by decide +kernel
theorem q231_969 : am_look 231 969 = some (.iaload, 970, 0, 0, 0) := by decide +kernel
theorem q231_970 : am_look 231 970 = some (.aload_n 0, 971, 0, 0, 0) := by decide +kernel
theorem q231_971 : am_look 231 971 = some (.iload_n 3, 972, 3, 0, 0) := by decide +kernel
theorem q231_972 : am_look 231 972 = some (.iconst 4, 973, 0, 0, 4) := by decide +kernel
theorem q231_973 : am_look 231 973 = some (.iadd, 974, 0, 0, 0) := by decide +kernel
theorem q231_974 : am_look 231 974 = some (.iaload, 975, 0, 0, 0) := by decide +kernel
theorem q231_975 : am_look 231 975 = some (.invokevirtual 100, 978, 223, 5, 11) := by decide +kernel
theorem q231_978 : am_look 231 978 = some (.aload_n 2, 979, 2, 0, 0) := by decide +kernel
theorem q231_979 : am_look 231 979 = some (.aload_n 0, 980, 0, 0, 0) := by decide +kernel
theorem q231_980 : am_look 231 980 = some (.iload_n 3, 981, 3, 0, 0) := by decide +kernel
theorem q231_981 : am_look 231 981 = some (.iconst 1, 982, 0, 0, 1) := by decide +kernel
theorem q231_982 : am_look 231 982 = some (.iadd, 983, 0, 0, 0) := by decide +kernel
theorem q231_983 : am_look 231 983 = some (.iaload, 984, 0, 0, 0) := by decide +kernel
theorem q231_984 : am_look 231 984 = some (.aload_n 0, 985, 0, 0, 0) := by decide +kernel
theorem q231_985 : am_look 231 985 = some (.iload_n 3, 986, 3, 0, 0) := by decide +kernel
theorem q231_986 : am_look 231 986 = some (.iconst 2, 987, 0, 0, 2) := by decide +kernel
theorem q231_987 : am_look 231 987 = some (.iadd, 988, 0, 0, 0) := by decide +kernel
theorem q231_988 : am_look 231 988 = some (.iaload, 989, 0, 0, 0) := by decide +kernel
theorem q231_989 : am_look 231 989 = some (.aload_n 0, 990, 0, 0, 0) := by decide +kernel
theorem q231_990 : am_look 231 990 = some (.iload_n 3, 991, 3, 0, 0) := by decide +kernel
theorem q231_991 : am_look 231 991 = some (.iconst 3, 992, 0, 0, 3) := by decide +kernel
theorem q231_992 : am_look 231 992 = some (.iadd, 993, 0, 0, 0) := by decide +kernel
theorem q231_993 : am_look 231 993 = some (.iaload, 994, 0, 0, 0) := by decide +kernel
theorem q231_994 : am_look 231 994 = some (.aload_n 0, 995, 0, 0, 0) := by decide +kernel
theorem q231_995 : am_look 231 995 = some (.iload_n 3, 996, 3, 0, 0) := by decide +kernel
theorem q231_996 : am_look 231 996 = some (.iconst 4, 997, 0, 0, 4) := by decide +kernel
theorem q231_997 : am_look 231 997 = some (.iadd, 998, 0, 0, 0) := by decide +kernel
theorem q231_998 : am_look 231 998 = some (.iaload, 999, 0, 0, 0) := by decide +kernel
theorem q231_999 : am_look 231 999 = some (.invokevirtual 103, 1002, 196, 5, 12) := by decide +kernel
theorem q231_1002 : am_look 231 1002 = some (.if_icmp .eq 454, 1005, 1456, 0, 0) := by decide +kernel
theorem q231_1005 : am_look 231 1005 = some (.iconst 0, 1006, 0, 0, 0) := by decide +kernel
theorem q231_1006 : am_look 231 1006 = some (.ireturn, 1007, 0, 0, 0) := by decide +kernel
theorem q231_1007 : am_look 231 1007 = some (.aload_n 1, 1008, 1, 0, 0) := by decide +kernel
theorem q231_1008 : am_look 231 1008 = some (.aload_n 0, 1009, 0, 0, 0) := by decide +kernel
theorem q231_1009 : am_look 231 1009 = some (.iload_n 3, 1010, 3, 0, 0) := by decide +kernel
theorem q231_1010 : am_look 231 1010 = some (.iconst 1, 1011, 0, 0, 1) := by decide +kernel
theorem q231_1011 : am_look 231 1011 = some (.iadd, 1012, 0, 0, 0) := by decide +kernel
theorem q231_1012 : am_look 231 1012 = some (.iaload, 1013, 0, 0, 0) := by decide +kernel
theorem q231_1013 : am_look 231 1013 = some (.aload_n 0, 1014, 0, 0, 0) := by decide +kernel
theorem q231_1014 : am_look 231 1014 = some (.iload_n 3, 1015, 3, 0, 0) := by decide +kernel
theorem q231_1015 : am_look 231 1015 = some (.iconst 2, 1016, 0, 0, 2) := by decide +kernel
theorem q231_1016 : am_look 231 1016 = some (.iadd, 1017, 0, 0, 0) := by decide +kernel
theorem q231_1017 : am_look 231 1017 = some (.iaload, 1018, 0, 0, 0) := by decide +kernel
theorem q231_1018 : am_look 231 1018 = some (.aload_n 0, 1019, 0, 0, 0) := by decide +kernel
theorem q231_1019 : am_look 231 1019 = some (.iload_n 3, 1020, 3, 0, 0) := by decide +kernel
theorem q231_1020 : am_look 231 1020 = some (.iconst 3, 1021, 0, 0, 3) := by decide +kernel
theorem q231_1021 : am_look 231 1021 = some (.iadd, 1022, 0, 0, 0) := by decide +kernel
theorem q231_1022 : am_look 231 1022 = some (.iaload, 1023, 0, 0, 0) := by decide +kernel
theorem q231_1023 : am_look 231 1023 = some (.invokevirtual 104, 1026, 224, 4, 11) := by decide +kernel
theorem q231_1026 : am_look 231 1026 = some (.aload_n 2, 1027, 2, 0, 0) := by decide +kernel
theorem q231_1027 : am_look 231 1027 = some (.aload_n 0, 1028, 0, 0, 0) := by decide +kernel
theorem q231_1028 : am_look 231 1028 = some (.iload_n 3, 1029, 3, 0, 0) := by decide +kernel
theorem q231_1029 : am_look 231 1029 = some (.iconst 1, 1030, 0, 0, 1) := by decide +kernel
theorem q231_1030 : am_look 231 1030 = some (.iadd, 1031, 0, 0, 0) := by decide +kernel
theorem q231_1031 : am_look 231 1031 = some (.iaload, 1032, 0, 0, 0) := by decide +kernel
theorem q231_1032 : am_look 231 1032 = some (.aload_n 0, 1033, 0, 0, 0) := by decide +kernel
theorem q231_1033 : am_look 231 1033 = some (.iload_n 3, 1034, 3, 0, 0) := by decide +kernel
theorem q231_1034 : am_look 231 1034 = some (.iconst 2, 1035, 0, 0, 2) := by decide +kernel
theorem q231_1035 : am_look 231 1035 = some (.iadd, 1036, 0, 0, 0) := by decide +kernel
theorem q231_1036 : am_look 231 1036 = some (.iaload, 1037, 0, 0, 0) := by decide +kernel
theorem q231_1037 : am_look 231 1037 = some (.aload_n 0, 1038, 0, 0, 0) := by decide +kernel
theorem q231_1038 : am_look 231 1038 = some (.iload_n 3, 1039, 3, 0, 0) := by decide +kernel
theorem q231_1039 : am_look 231 1039 = some (.iconst 3, 1040, 0, 0, 3) := by decide +kernel
theorem q231_1040 : am_look 231 1040 = some (.iadd, 1041, 0, 0, 0) := by decide +kernel
theorem q231_1041 : am_look 231 1041 = some (.iaload, 1042, 0, 0, 0) := by decide +kernel
theorem q231_1042 : am_look 231 1042 = some (.invokevirtual 107, 1045, 217, 4, 12) := by decide +kernel
theorem q231_1045 : am_look 231 1045 = some (.if_icmp .eq 411, 1048, 1456, 0, 0) := by decide +kernel
theorem q231_1048 : am_look 231 1048 = some (.iconst 0, 1049, 0, 0, 0) := by decide +kernel
theorem q231_1049 : am_look 231 1049 = some (.ireturn, 1050, 0, 0, 0) := by decide +kernel
theorem q231_1050 : am_look 231 1050 = some (.aload_n 1, 1051, 1, 0, 0) := by decide +kernel
theorem q231_1051 : am_look 231 1051 = some (.aload_n 0, 1052, 0, 0, 0) := by decide +kernel
theorem q231_1052 : am_look 231 1052 = some (.iload_n 3, 1053, 3, 0, 0) := by decide +kernel
theorem q231_1053 : am_look 231 1053 = some (.iconst 1, 1054, 0, 0, 1) := by decide +kernel
theorem q231_1054 : am_look 231 1054 = some (.iadd, 1055, 0, 0, 0) := by decide +kernel
theorem q231_1055 : am_look 231 1055 = some (.iaload, 1056, 0, 0, 0) := by decide +kernel
theorem q231_1056 : am_look 231 1056 = some (.aload_n 0, 1057, 0, 0, 0) := by decide +kernel
theorem q231_1057 : am_look 231 1057 = some (.iload_n 3, 1058, 3, 0, 0) := by decide +kernel
theorem q231_1058 : am_look 231 1058 = some (.iconst 2, 1059, 0, 0, 2) := by decide +kernel
theorem q231_1059 : am_look 231 1059 = some (.iadd, 1060, 0, 0, 0) := by decide +kernel
theorem q231_1060 : am_look 231 1060 = some (.iaload, 1061, 0, 0, 0) := by decide +kernel
theorem q231_1061 : am_look 231 1061 = some (.invokevirtual 108, 1064, 228, 3, 11) := by decide +kernel
theorem q231_1064 : am_look 231 1064 = some (.aload_n 2, 1065, 2, 0, 0) := by decide +kernel
theorem q231_1065 : am_look 231 1065 = some (.aload_n 0, 1066, 0, 0, 0) := by decide +kernel
theorem q231_1066 : am_look 231 1066 = some (.iload_n 3, 1067, 3, 0, 0) := by decide +kernel
theorem q231_1067 : am_look 231 1067 = some (.iconst 1, 1068, 0, 0, 1) := by decide +kernel
theorem q231_1068 : am_look 231 1068 = some (.iadd, 1069, 0, 0, 0) := by decide +kernel
theorem q231_1069 : am_look 231 1069 = some (.iaload, 1070, 0, 0, 0) := by decide +kernel
theorem q231_1070 : am_look 231 1070 = some (.aload_n 0, 1071, 0, 0, 0) := by decide +kernel
theorem q231_1071 : am_look 231 1071 = some (.iload_n 3, 1072, 3, 0, 0) := by decide +kernel
theorem q231_1072 : am_look 231 1072 = some (.iconst 2, 1073, 0, 0, 2) := by decide +kernel
theorem q231_1073 : am_look 231 1073 = some (.iadd, 1074, 0, 0, 0) := by decide +kernel
theorem q231_1074 : am_look 231 1074 = some (.iaload, 1075, 0, 0, 0) := by decide +kernel
theorem q231_1075 : am_look 231 1075 = some (.invokevirtual 111, 1078, 218, 3, 12) := by decide +kernel
theorem q231_1078 : am_look 231 1078 = some (.if_icmp .eq 378, 1081, 1456, 0, 0) := by decide +kernel
theorem q231_1081 : am_look 231 1081 = some (.iconst 0, 1082, 0, 0, 0) := by decide +kernel
theorem q231_1082 : am_look 231 1082 = some (.ireturn, 1083, 0, 0, 0) := by decide +kernel
theorem q231_1083 : am_look 231 1083 = some (.aload_n 1, 1084, 1, 0, 0) := by decide +kernel
theorem q231_1084 : am_look 231 1084 = some (.aload_n 0, 1085, 0, 0, 0) := by decide +kernel
theorem q231_1085 : am_look 231 1085 = some (.iload_n 3, 1086, 3, 0, 0) := by decide +kernel
theorem q231_1086 : am_look 231 1086 = some (.iconst 1, 1087, 0, 0, 1) := by decide +kernel
theorem q231_1087 : am_look 231 1087 = some (.iadd, 1088, 0, 0, 0) := by decide +kernel
theorem q231_1088 : am_look 231 1088 = some (.iaload, 1089, 0, 0, 0) := by decide +kernel
theorem q231_1089 : am_look 231 1089 = some (.aload_n 0, 1090, 0, 0, 0) := by decide +kernel
theorem q231_1090 : am_look 231 1090 = some (.iload_n 3, 1091, 3, 0, 0) := by decide +kernel
theorem q231_1091 : am_look 231 1091 = some (.iconst 2, 1092, 0, 0, 2) := by decide +kernel
theorem q231_1092 : am_look 231 1092 = some (.iadd, 1093, 0, 0, 0) := by decide +kernel
theorem q231_1093 : am_look 231 1093 = some (.iaload, 1094, 0, 0, 0) := by decide +kernel
theorem q231_1094 : am_look 231 1094 = some (.invokevirtual 112, 1097, 229, 3, 11) := by decide +kernel
theorem q231_1097 : am_look 231 1097 = some (.aload_n 2, 1098, 2, 0, 0) := by decide +kernel
theorem q231_1098 : am_look 231 1098 = some (.aload_n 0, 1099, 0, 0, 0) := by decide +kernel
theorem q231_1099 : am_look 231 1099 = some (.iload_n 3, 1100, 3, 0, 0) := by decide +kernel
theorem q231_1100 : am_look 231 1100 = some (.iconst 1, 1101, 0, 0, 1) := by decide +kernel
theorem q231_1101 : am_look 231 1101 = some (.iadd, 1102, 0, 0, 0) := by decide +kernel
theorem q231_1102 : am_look 231 1102 = some (.iaload, 1103, 0, 0, 0) := by decide +kernel
theorem q231_1103 : am_look 231 1103 = some (.aload_n 0, 1104, 0, 0, 0) := by decide +kernel
theorem q231_1104 : am_look 231 1104 = some (.iload_n 3, 1105, 3, 0, 0) := by decide +kernel
theorem q231_1105 : am_look 231 1105 = some (.iconst 2, 1106, 0, 0, 2) := by decide +kernel
theorem q231_1106 : am_look 231 1106 = some (.iadd, 1107, 0, 0, 0) := by decide +kernel
theorem q231_1107 : am_look 231 1107 = some (.iaload, 1108, 0, 0, 0) := by decide +kernel
theorem q231_1108 : am_look 231 1108 = some (.invokevirtual 115, 1111, 219, 3, 12) := by decide +kernel
theorem q231_1111 : am_look 231 1111 = some (.if_icmp .eq 345, 1114, 1456, 0, 0) := by decide +kernel
theorem q231_1114 : am_look 231 1114 = some (.iconst 0, 1115, 0, 0, 0) := by decide +kernel
theorem q231_1115 : am_look 231 1115 = some (.ireturn, 1116, 0, 0, 0) := by decide +kernel
theorem q231_1116 : am_look 231 1116 = some (.aload_n 1, 1117, 1, 0, 0) := by decide +kernel
theorem q231_1117 : am_look 231 1117 = some (.aload_n 0, 1118, 0, 0, 0) := by decide +kernel
theorem q231_1118 : am_look 231 1118 = some (.iload_n 3, 1119, 3, 0, 0) := by decide +kernel
theorem q231_1119 : am_look 231 1119 = some (.iconst 1, 1120, 0, 0, 1) := by decide +kernel
theorem q231_1120 : am_look 231 1120 = some (.iadd, 1121, 0, 0, 0) := by decide +kernel
theorem q231_1121 : am_look 231 1121 = some (.iaload, 1122, 0, 0, 0) := by decide +kernel
theorem q231_1122 : am_look 231 1122 = some (.invokevirtual 116, 1125, 225, 2, 11) := by decide +kernel
theorem q231_1125 : am_look 231 1125 = some (.aload_n 2, 1126, 2, 0, 0) := by decide +kernel
theorem q231_1126 : am_look 231 1126 = some (.aload_n 0, 1127, 0, 0, 0) := by decide +kernel
theorem q231_1127 : am_look 231 1127 = some (.iload_n 3, 1128, 3, 0, 0) := by decide +kernel
theorem q231_1128 : am_look 231 1128 = some (.iconst 1, 1129, 0, 0, 1) := by decide +kernel
theorem q231_1129 : am_look 231 1129 = some (.iadd, 1130, 0, 0, 0) := by decide +kernel
theorem q231_1130 : am_look 231 1130 = some (.iaload, 1131, 0, 0, 0) := by decide +kernel
theorem q231_1131 : am_look 231 1131 = some (.invokevirtual 119, 1134, 198, 2, 12) := by decide +kernel
theorem q231_1134 : am_look 231 1134 = some (.if_icmp .eq 322, 1137, 1456, 0, 0) := by decide +kernel
theorem q231_1137 : am_look 231 1137 = some (.iconst 0, 1138, 0, 0, 0) := by decide +kernel
theorem q231_1138 : am_look 231 1138 = some (.ireturn, 1139, 0, 0, 0) := by decide +kernel
theorem q231_1139 : am_look 231 1139 = some (.aload_n 1, 1140, 1, 0, 0) := by decide +kernel
theorem q231_1140 : am_look 231 1140 = some (.aload_n 0, 1141, 0, 0, 0) := by decide +kernel
theorem q231_1141 : am_look 231 1141 = some (.iload_n 3, 1142, 3, 0, 0) := by decide +kernel
theorem q231_1142 : am_look 231 1142 = some (.iconst 1, 1143, 0, 0, 1) := by decide +kernel
theorem q231_1143 : am_look 231 1143 = some (.iadd, 1144, 0, 0, 0) := by decide +kernel
theorem q231_1144 : am_look 231 1144 = some (.iaload, 1145, 0, 0, 0) := by decide +kernel
theorem q231_1145 : am_look 231 1145 = some (.aload_n 0, 1146, 0, 0, 0) := by decide +kernel
theorem q231_1146 : am_look 231 1146 = some (.iload_n 3, 1147, 3, 0, 0) := by decide +kernel
theorem q231_1147 : am_look 231 1147 = some (.iconst 2, 1148, 0, 0, 2) := by decide +kernel
theorem q231_1148 : am_look 231 1148 = some (.iadd, 1149, 0, 0, 0) := by decide +kernel
theorem q231_1149 : am_look 231 1149 = some (.iaload, 1150, 0, 0, 0) := by decide +kernel
theorem q231_1150 : am_look 231 1150 = some (.invokevirtual 120, 1153, 226, 3, 11) := by decide +kernel
theorem q231_1153 : am_look 231 1153 = some (.aload_n 2, 1154, 2, 0, 0) := by decide +kernel
theorem q231_1154 : am_look 231 1154 = some (.aload_n 0, 1155, 0, 0, 0) := by decide +kernel
theorem q231_1155 : am_look 231 1155 = some (.iload_n 3, 1156, 3, 0, 0) := by decide +kernel
theorem q231_1156 : am_look 231 1156 = some (.iconst 1, 1157, 0, 0, 1) := by decide +kernel
theorem q231_1157 : am_look 231 1157 = some (.iadd, 1158, 0, 0, 0) := by decide +kernel
theorem q231_1158 : am_look 231 1158 = some (.iaload, 1159, 0, 0, 0) := by decide +kernel
theorem q231_1159 : am_look 231 1159 = some (.aload_n 0, 1160, 0, 0, 0) := by decide +kernel
theorem q231_1160 : am_look 231 1160 = some (.iload_n 3, 1161, 3, 0, 0) := by decide +kernel
theorem q231_1161 : am_look 231 1161 = some (.iconst 2, 1162, 0, 0, 2) := by decide +kernel
theorem q231_1162 : am_look 231 1162 = some (.iadd, 1163, 0, 0, 0) := by decide +kernel
theorem q231_1163 : am_look 231 1163 = some (.iaload, 1164, 0, 0, 0) := by decide +kernel
theorem q231_1164 : am_look 231 1164 = some (.invokevirtual 123, 1167, 199, 3, 12) := by decide +kernel
theorem q231_1167 : am_look 231 1167 = some (.if_icmp .eq 289, 1170, 1456, 0, 0) := by decide +kernel
theorem q231_1170 : am_look 231 1170 = some (.iconst 0, 1171, 0, 0, 0) := by decide +kernel
theorem q231_1171 : am_look 231 1171 = some (.ireturn, 1172, 0, 0, 0) := by decide +kernel
theorem q231_1172 : am_look 231 1172 = some (.aload_n 1, 1173, 1, 0, 0) := by decide +kernel
theorem q231_1173 : am_look 231 1173 = some (.aload_n 0, 1174, 0, 0, 0) := by decide +kernel
theorem q231_1174 : am_look 231 1174 = some (.iload_n 3, 1175, 3, 0, 0) := by decide +kernel
theorem q231_1175 : am_look 231 1175 = some (.iconst 1, 1176, 0, 0, 1) := by decide +kernel
theorem q231_1176 : am_look 231 1176 = some (.iadd, 1177, 0, 0, 0) := by decide +kernel
theorem q231_1177 : am_look 231 1177 = some (.iaload, 1178, 0, 0, 0) := by decide +kernel
theorem q231_1178 : am_look 231 1178 = some (.aload_n 0, 1179, 0, 0, 0) := by decide +kernel
theorem q231_1179 : am_look 231 1179 = some (.iload_n 3, 1180, 3, 0, 0) := by decide +kernel
theorem q231_1180 : am_look 231 1180 = some (.iconst 2, 1181, 0, 0, 2) := by decide +kernel
theorem q231_1181 : am_look 231 1181 = some (.iadd, 1182, 0, 0, 0) := by decide +kernel
theorem q231_1182 : am_look 231 1182 = some (.iaload, 1183, 0, 0, 0) := by decide +kernel
theorem q231_1183 : am_look 231 1183 = some (.aload_n 0, 1184, 0, 0, 0) := by decide +kernel
theorem q231_1184 : am_look 231 1184 = some (.iload_n 3, 1185, 3, 0, 0) := by decide +kernel
theorem q231_1185 : am_look 231 1185 = some (.iconst 3, 1186, 0, 0, 3) := by decide +kernel
theorem q231_1186 : am_look 231 1186 = some (.iadd, 1187, 0, 0, 0) := by decide +kernel
theorem q231_1187 : am_look 231 1187 = some (.iaload, 1188, 0, 0, 0) := by decide +kernel
theorem q231_1188 : am_look 231 1188 = some (.invokevirtual 124, 1191, 230, 4, 11) := by decide +kernel
theorem q231_1191 : am_look 231 1191 = some (.aload_n 2, 1192, 2, 0, 0) := by decide +kernel
theorem q231_1192 : am_look 231 1192 = some (.aload_n 0, 1193, 0, 0, 0) := by decide +kernel
theorem q231_1193 : am_look 231 1193 = some (.iload_n 3, 1194, 3, 0, 0) := by decide +kernel
theorem q231_1194 : am_look 231 1194 = some (.iconst 1, 1195, 0, 0, 1) := by decide +kernel
theorem q231_1195 : am_look 231 1195 = some (.iadd, 1196, 0, 0, 0) := by decide +kernel
theorem q231_1196 : am_look 231 1196 = some (.iaload, 1197, 0, 0, 0) := by decide +kernel
theorem q231_1197 : am_look 231 1197 = some (.aload_n 0, 1198, 0, 0, 0) := by decide +kernel
theorem q231_1198 : am_look 231 1198 = some (.iload_n 3, 1199, 3, 0, 0) := by decide +kernel
theorem q231_1199 : am_look 231 1199 = some (.iconst 2, 1200, 0, 0, 2) := by decide +kernel
theorem q231_1200 : am_look 231 1200 = some (.iadd, 1201, 0, 0, 0) := by decide +kernel
theorem q231_1201 : am_look 231 1201 = some (.iaload, 1202, 0, 0, 0) := by decide +kernel
theorem q231_1202 : am_look 231 1202 = some (.aload_n 0, 1203, 0, 0, 0) := by decide +kernel
theorem q231_1203 : am_look 231 1203 = some (.iload_n 3, 1204, 3, 0, 0) := by decide +kernel
theorem q231_1204 : am_look 231 1204 = some (.iconst 3, 1205, 0, 0, 3) := by decide +kernel
theorem q231_1205 : am_look 231 1205 = some (.iadd, 1206, 0, 0, 0) := by decide +kernel
theorem q231_1206 : am_look 231 1206 = some (.iaload, 1207, 0, 0, 0) := by decide +kernel
theorem q231_1207 : am_look 231 1207 = some (.invokevirtual 127, 1210, 170, 4, 12) := by decide +kernel
theorem q231_1210 : am_look 231 1210 = some (.if_icmp .eq 246, 1213, 1456, 0, 0) := by decide +kernel
theorem q231_1213 : am_look 231 1213 = some (.iconst 0, 1214, 0, 0, 0) := by decide +kernel
theorem q231_1214 : am_look 231 1214 = some (.ireturn, 1215, 0, 0, 0) := by decide +kernel
theorem q231_1215 : am_look 231 1215 = some (.aload_n 1, 1216, 1, 0, 0) := by decide +kernel
theorem q231_1216 : am_look 231 1216 = some (.aload_n 0, 1217, 0, 0, 0) := by decide +kernel
theorem q231_1217 : am_look 231 1217 = some (.iload_n 3, 1218, 3, 0, 0) := by decide +kernel
theorem q231_1218 : am_look 231 1218 = some (.iconst 1, 1219, 0, 0, 1) := by decide +kernel
theorem q231_1219 : am_look 231 1219 = some (.iadd, 1220, 0, 0, 0) := by decide +kernel
theorem q231_1220 : am_look 231 1220 = some (.iaload, 1221, 0, 0, 0) := by decide +kernel
theorem q231_1221 : am_look 231 1221 = some (.aload_n 0, 1222, 0, 0, 0) := by decide +kernel
theorem q231_1222 : am_look 231 1222 = some (.iload_n 3, 1223, 3, 0, 0) := by decide +kernel
theorem q231_1223 : am_look 231 1223 = some (.iconst 2, 1224, 0, 0, 2) := by decide +kernel
theorem q231_1224 : am_look 231 1224 = some (.iadd, 1225, 0, 0, 0) := by decide +kernel
theorem q231_1225 : am_look 231 1225 = some (.iaload, 1226, 0, 0, 0) := by decide +kernel
theorem q231_1226 : am_look 231 1226 = some (.invokevirtual 128, 1229, 213, 3, 11) := by decide +kernel
theorem q231_1229 : am_look 231 1229 = some (.aload_n 2, 1230, 2, 0, 0) := by decide +kernel
theorem q231_1230 : am_look 231 1230 = some (.aload_n 0, 1231, 0, 0, 0) := by decide +kernel
theorem q231_1231 : am_look 231 1231 = some (.iload_n 3, 1232, 3, 0, 0) := by decide +kernel
theorem q231_1232 : am_look 231 1232 = some (.iconst 1, 1233, 0, 0, 1) := by decide +kernel
theorem q231_1233 : am_look 231 1233 = some (.iadd, 1234, 0, 0, 0) := by decide +kernel
theorem q231_1234 : am_look 231 1234 = some (.iaload, 1235, 0, 0, 0) := by decide +kernel
theorem q231_1235 : am_look 231 1235 = some (.aload_n 0, 1236, 0, 0, 0) := by decide +kernel
theorem q231_1236 : am_look 231 1236 = some (.iload_n 3, 1237, 3, 0, 0) := by decide +kernel
theorem q231_1237 : am_look 231 1237 = some (.iconst 2, 1238, 0, 0, 2) := by decide +kernel
theorem q231_1238 : am_look 231 1238 = some (.iadd, 1239, 0, 0, 0) := by decide +kernel
theorem q231_1239 : am_look 231 1239 = some (.iaload, 1240, 0, 0, 0) := by decide +kernel
theorem q231_1240 : am_look 231 1240 = some (.invokevirtual 131, 1243, 200, 3, 12) := by decide +kernel
theorem q231_1243 : am_look 231 1243 = some (.if_icmp .eq 213, 1246, 1456, 0, 0) := by decide +kernel
theorem q231_1246 : am_look 231 1246 = some (.iconst 0, 1247, 0, 0, 0) := by decide +kernel
theorem q231_1247 : am_look 231 1247 = some (.ireturn, 1248, 0, 0, 0) := by decide +kernel
theorem q231_1248 : am_look 231 1248 = some (.aload_n 1, 1249, 1, 0, 0) := by decide +kernel
theorem q231_1249 : am_look 231 1249 = some (.aload_n 0, 1250, 0, 0, 0) := by decide +kernel
theorem q231_1250 : am_look 231 1250 = some (.iload_n 3, 1251, 3, 0, 0) := by decide +kernel
theorem q231_1251 : am_look 231 1251 = some (.iconst 1, 1252, 0, 0, 1) := by decide +kernel
theorem q231_1252 : am_look 231 1252 = some (.iadd, 1253, 0, 0, 0) := by decide +kernel
theorem q231_1253 : am_look 231 1253 = some (.iaload, 1254, 0, 0, 0) := by decide +kernel
theorem q231_1254 : am_look 231 1254 = some (.invokevirtual 132, 1257, 227, 2, 11) := by decide +kernel
theorem q231_1257 : am_look 231 1257 = some (.aload_n 2, 1258, 2, 0, 0) := by decide +kernel
theorem q231_1258 : am_look 231 1258 = some (.aload_n 0, 1259, 0, 0, 0) := by decide +kernel
theorem q231_1259 : am_look 231 1259 = some (.iload_n 3, 1260, 3, 0, 0) := by decide +kernel
theorem q231_1260 : am_look 231 1260 = some (.iconst 1, 1261, 0, 0, 1) := by decide +kernel
theorem q231_1261 : am_look 231 1261 = some (.iadd, 1262, 0, 0, 0) := by decide +kernel
theorem q231_1262 : am_look 231 1262 = some (.iaload, 1263, 0, 0, 0) := by decide +kernel
theorem q231_1263 : am_look 231 1263 = some (.invokevirtual 135, 1266, 201, 2, 12) := by decide +kernel
theorem q231_1266 : am_look 231 1266 = some (.if_icmp .eq 190, 1269, 1456, 0, 0) := by decide +kernel
theorem q231_1269 : am_look 231 1269 = some (.iconst 0, 1270, 0, 0, 0) := by decide +kernel
theorem q231_1270 : am_look 231 1270 = some (.ireturn, 1271, 0, 0, 0) := by decide +kernel
theorem q231_1271 : am_look 231 1271 = some (.aload_n 1, 1272, 1, 0, 0) := by decide +kernel
theorem q231_1272 : am_look 231 1272 = some (.aload_n 0, 1273, 0, 0, 0) := by decide +kernel
theorem q231_1273 : am_look 231 1273 = some (.iload_n 3, 1274, 3, 0, 0) := by decide +kernel
theorem q231_1274 : am_look 231 1274 = some (.iconst 1, 1275, 0, 0, 1) := by decide +kernel
theorem q231_1275 : am_look 231 1275 = some (.iadd, 1276, 0, 0, 0) := by decide +kernel
theorem q231_1276 : am_look 231 1276 = some (.iaload, 1277, 0, 0, 0) := by decide +kernel
theorem q231_1277 : am_look 231 1277 = some (.aload_n 0, 1278, 0, 0, 0) := by decide +kernel
theorem q231_1278 : am_look 231 1278 = some (.iload_n 3, 1279, 3, 0, 0) := by decide +kernel
theorem q231_1279 : am_look 231 1279 = some (.iconst 2, 1280, 0, 0, 2) := by decide +kernel
theorem q231_1280 : am_look 231 1280 = some (.iadd, 1281, 0, 0, 0) := by decide +kernel
theorem q231_1281 : am_look 231 1281 = some (.iaload, 1282, 0, 0, 0) := by decide +kernel
theorem q231_1282 : am_look 231 1282 = some (.aload_n 0, 1283, 0, 0, 0) := by decide +kernel
theorem q231_1283 : am_look 231 1283 = some (.iload_n 3, 1284, 3, 0, 0) := by decide +kernel
theorem q231_1284 : am_look 231 1284 = some (.iconst 3, 1285, 0, 0, 3) := by decide +kernel
theorem q231_1285 : am_look 231 1285 = some (.iadd, 1286, 0, 0, 0) := by decide +kernel
theorem q231_1286 : am_look 231 1286 = some (.iaload, 1287, 0, 0, 0) := by decide +kernel
theorem q231_1287 : am_look 231 1287 = some (.invokevirtual 136, 1290, 188, 4, 11) := by decide +kernel
theorem q231_1290 : am_look 231 1290 = some (.aload_n 2, 1291, 2, 0, 0) := by decide +kernel
theorem q231_1291 : am_look 231 1291 = some (.aload_n 0, 1292, 0, 0, 0) := by decide +kernel
theorem q231_1292 : am_look 231 1292 = some (.iload_n 3, 1293, 3, 0, 0) := by decide +kernel
theorem q231_1293 : am_look 231 1293 = some (.iconst 1, 1294, 0, 0, 1) := by decide +kernel
theorem q231_1294 : am_look 231 1294 = some (.iadd, 1295, 0, 0, 0) := by decide +kernel
theorem q231_1295 : am_look 231 1295 = some (.iaload, 1296, 0, 0, 0) := by decide +kernel
theorem q231_1296 : am_look 231 1296 = some (.aload_n 0, 1297, 0, 0, 0) := by decide +kernel
theorem q231_1297 : am_look 231 1297 = some (.iload_n 3, 1298, 3, 0, 0) := by decide +kernel
theorem q231_1298 : am_look 231 1298 = some (.iconst 2, 1299, 0, 0, 2) := by decide +kernel
theorem q231_1299 : am_look 231 1299 = some (.iadd, 1300, 0, 0, 0) := by decide +kernel
theorem q231_1300 : am_look 231 1300 = some (.iaload, 1301, 0, 0, 0) := by decide +kernel
theorem q231_1301 : am_look 231 1301 = some (.aload_n 0, 1302, 0, 0, 0) := by decide +kernel
theorem q231_1302 : am_look 231 1302 = some (.iload_n 3, 1303, 3, 0, 0) := by decide +kernel
theorem q231_1303 : am_look 231 1303 = some (.iconst 3, 1304, 0, 0, 3) := by decide +kernel
theorem q231_1304 : am_look 231 1304 = some (.iadd, 1305, 0, 0, 0) := by decide +kernel
theorem q231_1305 : am_look 231 1305 = some (.iaload, 1306, 0, 0, 0) := by decide +kernel
theorem q231_1306 : am_look 231 1306 = some (.invokevirtual 139, 1309, 172, 4, 12) := by decide +kernel
theorem q231_1309 : am_look 231 1309 = some (.if_icmp .eq 147, 1312, 1456, 0, 0) := by decide +kernel
theorem q231_1312 : am_look 231 1312 = some (.iconst 0, 1313, 0, 0, 0) := by decide +kernel
theorem q231_1313 : am_look 231 1313 = some (.ireturn, 1314, 0, 0, 0) := by decide +kernel
theorem q231_1314 : am_look 231 1314 = some (.aload_n 1, 1315, 1, 0, 0) := by decide +kernel
theorem q231_1315 : am_look 231 1315 = some (.aload_n 0, 1316, 0, 0, 0) := by decide +kernel
theorem q231_1316 : am_look 231 1316 = some (.iload_n 3, 1317, 3, 0, 0) := by decide +kernel
theorem q231_1317 : am_look 231 1317 = some (.iconst 1, 1318, 0, 0, 1) := by decide +kernel
theorem q231_1318 : am_look 231 1318 = some (.iadd, 1319, 0, 0, 0) := by decide +kernel
theorem q231_1319 : am_look 231 1319 = some (.iaload, 1320, 0, 0, 0) := by decide +kernel
theorem q231_1320 : am_look 231 1320 = some (.aload_n 0, 1321, 0, 0, 0) := by decide +kernel
theorem q231_1321 : am_look 231 1321 = some (.iload_n 3, 1322, 3, 0, 0) := by decide +kernel
theorem q231_1322 : am_look 231 1322 = some (.iconst 2, 1323, 0, 0, 2) := by decide +kernel
theorem q231_1323 : am_look 231 1323 = some (.iadd, 1324, 0, 0, 0) := by decide +kernel
theorem q231_1324 : am_look 231 1324 = some (.iaload, 1325, 0, 0, 0) := by decide +kernel
theorem q231_1325 : am_look 231 1325 = some (.aload_n 0, 1326, 0, 0, 0) := by decide +kernel
theorem q231_1326 : am_look 231 1326 = some (.iload_n 3, 1327, 3, 0, 0) := by decide +kernel
theorem q231_1327 : am_look 231 1327 = some (.iconst 3, 1328, 0, 0, 3) := by decide +kernel
theorem q231_1328 : am_look 231 1328 = some (.iadd, 1329, 0, 0, 0) := by decide +kernel
theorem q231_1329 : am_look 231 1329 = some (.iaload, 1330, 0, 0, 0) := by decide +kernel
theorem q231_1330 : am_look 231 1330 = some (.invokevirtual 140, 1333, 111, 4, 11) := by decide +kernel
theorem q231_1333 : am_look 231 1333 = some (.aload_n 2, 1334, 2, 0, 0) := by decide +kernel
theorem q231_1334 : am_look 231 1334 = some (.aload_n 0, 1335, 0, 0, 0) := by decide +kernel
theorem q231_1335 : am_look 231 1335 = some (.iload_n 3, 1336, 3, 0, 0) := by decide +kernel
theorem q231_1336 : am_look 231 1336 = some (.iconst 1, 1337, 0, 0, 1) := by decide +kernel
theorem q231_1337 : am_look 231 1337 = some (.iadd, 1338, 0, 0, 0) := by decide +kernel
theorem q231_1338 : am_look 231 1338 = some (.iaload, 1339, 0, 0, 0) := by decide +kernel
theorem q231_1339 : am_look 231 1339 = some (.aload_n 0, 1340, 0, 0, 0) := by decide +kernel
theorem q231_1340 : am_look 231 1340 = some (.iload_n 3, 1341, 3, 0, 0) := by decide +kernel
theorem q231_1341 : am_look 231 1341 = some (.iconst 2, 1342, 0, 0, 2) := by decide +kernel
theorem q231_1342 : am_look 231 1342 = some (.iadd, 1343, 0, 0, 0) := by decide +kernel
theorem q231_1343 : am_look 231 1343 = some (.iaload, 1344, 0, 0, 0) := by decide +kernel
theorem q231_1344 : am_look 231 1344 = some (.aload_n 0, 1345, 0, 0, 0) := by decide +kernel
theorem q231_1345 : am_look 231 1345 = some (.iload_n 3, 1346, 3, 0, 0) := by decide +kernel
theorem q231_1346 : am_look 231 1346 = some (.iconst 3, 1347, 0, 0, 3) := by decide +kernel
theorem q231_1347 : am_look 231 1347 = some (.iadd, 1348, 0, 0, 0) := by decide +kernel
theorem q231_1348 : am_look 231 1348 = some (.iaload, 1349, 0, 0, 0) := by decide +kernel
theorem q231_1349 : am_look 231 1349 = some (.invokevirtual 143, 1352, 173, 4, 12) := by decide +kernel
theorem q231_1352 : am_look 231 1352 = some (.if_icmp .eq 104, 1355, 1456, 0, 0) := by decide +kernel
theorem q231_1355 : am_look 231 1355 = some (.iconst 0, 1356, 0, 0, 0) := by decide +kernel
theorem q231_1356 : am_look 231 1356 = some (.ireturn, 1357, 0, 0, 0) := by decide +kernel
theorem q231_1357 : am_look 231 1357 = some (.aload_n 1, 1358, 1, 0, 0) := by decide +kernel
theorem q231_1358 : am_look 231 1358 = some (.aload_n 0, 1359, 0, 0, 0) := by decide +kernel
theorem q231_1359 : am_look 231 1359 = some (.iload_n 3, 1360, 3, 0, 0) := by decide +kernel
theorem q231_1360 : am_look 231 1360 = some (.iconst 1, 1361, 0, 0, 1) := by decide +kernel
theorem q231_1361 : am_look 231 1361 = some (.iadd, 1362, 0, 0, 0) := by decide +kernel
theorem q231_1362 : am_look 231 1362 = some (.iaload, 1363, 0, 0, 0) := by decide +kernel
theorem q231_1363 : am_look 231 1363 = some (.aload_n 0, 1364, 0, 0, 0) := by decide +kernel
theorem q231_1364 : am_look 231 1364 = some (.iload_n 3, 1365, 3, 0, 0) := by decide +kernel
theorem q231_1365 : am_look 231 1365 = some (.iconst 2, 1366, 0, 0, 2) := by decide +kernel
theorem q231_1366 : am_look 231 1366 = some (.iadd, 1367, 0, 0, 0) := by decide +kernel
theorem q231_1367 : am_look 231 1367 = some (.iaload, 1368, 0, 0, 0) := by decide +kernel
theorem q231_1368 : am_look 231 1368 = some (.aload_n 0, 1369, 0, 0, 0) := by decide +kernel
theorem q231_1369 : am_look 231 1369 = some (.iload_n 3, 1370, 3, 0, 0) := by decide +kernel
theorem q231_1370 : am_look 231 1370 = some (.iconst 3, 1371, 0, 0, 3) := by decide +kernel
theorem q231_1371 : am_look 231 1371 = some (.iadd, 1372, 0, 0, 0) := by decide +kernel
theorem q231_1372 : am_look 231 1372 = some (.iaload, 1373, 0, 0, 0) := by decide +kernel
theorem q231_1373 : am_look 231 1373 = some (.aload_n 0, 1374, 0, 0, 0) := by decide +kernel
theorem q231_1374 : am_look 231 1374 = some (.iload_n 3, 1375, 3, 0, 0) := by decide +kernel
theorem q231_1375 : am_look 231 1375 = some (.iconst 4, 1376, 0, 0, 4) := by decide +kernel
theorem q231_1376 : am_look 231 1376 = some (.iadd, 1377, 0, 0, 0) := by decide +kernel
theorem q231_1377 : am_look 231 1377 = some (.iaload, 1378, 0, 0, 0) := by decide +kernel
theorem q231_1378 : am_look 231 1378 = some (.aload_n 0, 1379, 0, 0, 0) := by decide +kernel
theorem q231_1379 : am_look 231 1379 = some (.iload_n 3, 1380, 3, 0, 0) := by decide +kernel
theorem q231_1380 : am_look 231 1380 = some (.iconst 5, 1381, 0, 0, 5) := by decide +kernel
theorem q231_1381 : am_look 231 1381 = some (.iadd, 1382, 0, 0, 0) := by decide +kernel
theorem q231_1382 : am_look 231 1382 = some (.iaload, 1383, 0, 0, 0) := by decide +kernel
theorem q231_1383 : am_look 231 1383 = some (.invokevirtual 144, 1386, 112, 6, 11) := by decide +kernel
theorem q231_1386 : am_look 231 1386 = some (.aload_n 2, 1387, 2, 0, 0) := by decide +kernel
theorem q231_1387 : am_look 231 1387 = some (.aload_n 0, 1388, 0, 0, 0) := by decide +kernel
theorem q231_1388 : am_look 231 1388 = some (.iload_n 3, 1389, 3, 0, 0) := by decide +kernel
theorem q231_1389 : am_look 231 1389 = some (.iconst 1, 1390, 0, 0, 1) := by decide +kernel
theorem q231_1390 : am_look 231 1390 = some (.iadd, 1391, 0, 0, 0) := by decide +kernel
theorem q231_1391 : am_look 231 1391 = some (.iaload, 1392, 0, 0, 0) := by decide +kernel
theorem q231_1392 : am_look 231 1392 = some (.aload_n 0, 1393, 0, 0, 0) := by decide +kernel
theorem q231_1393 : am_look 231 1393 = some (.iload_n 3, 1394, 3, 0, 0) := by decide +kernel
theorem q231_1394 : am_look 231 1394 = some (.iconst 2, 1395, 0, 0, 2) := by decide +kernel
theorem q231_1395 : am_look 231 1395 = some (.iadd, 1396, 0, 0, 0) := by decide +kernel
theorem q231_1396 : am_look 231 1396 = some (.iaload, 1397, 0, 0, 0) := by decide +kernel
theorem q231_1397 : am_look 231 1397 = some (.aload_n 0, 1398, 0, 0, 0) := by decide +kernel
theorem q231_1398 : am_look 231 1398 = some (.iload_n 3, 1399, 3, 0, 0) := by decide +kernel
theorem q231_1399 : am_look 231 1399 = some (.iconst 3, 1400, 0, 0, 3) := by decide +kernel
theorem q231_1400 : am_look 231 1400 = some (.iadd, 1401, 0, 0, 0) := by decide +kernel
theorem q231_1401 : am_look 231 1401 = some (.iaload, 1402, 0, 0, 0) := by decide +kernel
theorem q231_1402 : am_look 231 1402 = some (.aload_n 0, 1403, 0, 0, 0) := by decide +kernel
theorem q231_1403 : am_look 231 1403 = some (.iload_n 3, 1404, 3, 0, 0) := by decide +kernel
theorem q231_1404 : am_look 231 1404 = some (.iconst 4, 1405, 0, 0, 4) := by decide +kernel
theorem q231_1405 : am_look 231 1405 = some (.iadd, 1406, 0, 0, 0) := by decide +kernel
theorem q231_1406 : am_look 231 1406 = some (.iaload, 1407, 0, 0, 0) := by decide +kernel
theorem q231_1407 : am_look 231 1407 = some (.aload_n 0, 1408, 0, 0, 0) := by decide +kernel
theorem q231_1408 : am_look 231 1408 = some (.iload_n 3, 1409, 3, 0, 0) := by decide +kernel
theorem q231_1409 : am_look 231 1409 = some (.iconst 5, 1410, 0, 0, 5) := by decide +kernel
theorem q231_1410 : am_look 231 1410 = some (.iadd, 1411, 0, 0, 0) := by decide +kernel
theorem q231_1411 : am_look 231 1411 = some (.iaload, 1412, 0, 0, 0) := by decide +kernel
theorem q231_1412 : am_look 231 1412 = some (.invokevirtual 148, 1415, 174, 6, 12) := by decide +kernel
theorem q231_1415 : am_look 231 1415 = some (.if_icmp .eq 41, 1418, 1456, 0, 0) := by decide +kernel
theorem q231_1418 : am_look 231 1418 = some (.iconst 0, 1419, 0, 0, 0) := by decide +kernel
theorem q231_1419 : am_look 231 1419 = some (.ireturn, 1420, 0, 0, 0) := by decide +kernel
theorem q231_1420 : am_look 231 1420 = some (.aload_n 1, 1421, 1, 0, 0) := by decide +kernel
theorem q231_1421 : am_look 231 1421 = some (.invokevirtual 149, 1424, 160, 1, 11) := by decide +kernel
theorem q231_1424 : am_look 231 1424 = some (.aload_n 2, 1425, 2, 0, 0) := by decide +kernel
theorem q231_1425 : am_look 231 1425 = some (.invokevirtual 153, 1428, 118, 1, 12) := by decide +kernel
theorem q231_1428 : am_look 231 1428 = some (.if_icmp .eq 28, 1431, 1456, 0, 0) := by decide +kernel
theorem q231_1431 : am_look 231 1431 = some (.iconst 0, 1432, 0, 0, 0) := by decide +kernel
theorem q231_1432 : am_look 231 1432 = some (.ireturn, 1433, 0, 0, 0) := by decide +kernel
theorem q231_1433 : am_look 231 1433 = some (.aload_n 1, 1434, 1, 0, 0) := by decide +kernel
theorem q231_1434 : am_look 231 1434 = some (.aload_n 0, 1435, 0, 0, 0) := by decide +kernel
theorem q231_1435 : am_look 231 1435 = some (.iload_n 3, 1436, 3, 0, 0) := by decide +kernel
theorem q231_1436 : am_look 231 1436 = some (.iconst 1, 1437, 0, 0, 1) := by decide +kernel
theorem q231_1437 : am_look 231 1437 = some (.iadd, 1438, 0, 0, 0) := by decide +kernel
theorem q231_1438 : am_look 231 1438 = some (.iaload, 1439, 0, 0, 0) := by decide +kernel
theorem q231_1439 : am_look 231 1439 = some (.invokevirtual 154, 1442, 214, 2, 11) := by decide +kernel
theorem q231_1442 : am_look 231 1442 = some (.aload_n 2, 1443, 2, 0, 0) := by decide +kernel
theorem q231_1443 : am_look 231 1443 = some (.aload_n 0, 1444, 0, 0, 0) := by decide +kernel
theorem q231_1444 : am_look 231 1444 = some (.iload_n 3, 1445, 3, 0, 0) := by decide +kernel
theorem q231_1445 : am_look 231 1445 = some (.iconst 1, 1446, 0, 0, 1) := by decide +kernel
theorem q231_1446 : am_look 231 1446 = some (.iadd, 1447, 0, 0, 0) := by decide +kernel
theorem q231_1447 : am_look 231 1447 = some (.iaload, 1448, 0, 0, 0) := by decide +kernel
theorem q231_1448 : am_look 231 1448 = some (.invokevirtual 157, 1451, 136, 2, 12) := by decide +kernel
theorem q231_1451 : am_look 231 1451 = some (.if_icmp .eq 5, 1454, 1456, 0, 0) := by decide +kernel
theorem q231_1454 : am_look 231 1454 = some (.iconst 0, 1455, 0, 0, 0) := by decide +kernel
theorem q231_1455 : am_look 231 1455 = some (.ireturn, 1456, 0, 0, 0) := by decide +kernel
theorem q231_1456 : am_look 231 1456 = some (.iinc 3 6, 1459, 3, 0, 6) := by decide +kernel
theorem q231_1459 : am_look 231 1459 = some (.goto (-1441), 1462, 18, 0, 0) := by decide +kernel
theorem q231_1462 : am_look 231 1462 = some (.iconst 1, 1463, 0, 0, 1) := by decide +kernel
theorem q231_1463 : am_look 231 1463 = some (.ireturn, 1464, 0, 0, 0) := by decide +kernel
theorem zb231 : am_zb 231 = true := by decide +kernel
theorem ml231 : am_ml 231 = 4 := by decide +kernel
theorem np231 : am_np 231 + (if am_sc 231 then 0 else 1) = 1 := by decide +kernel
theorem st231 {d : Nat} {h h1 : am_H} {r : Option am_V} (a1 : Nat) (H : am_x (am_cd d) 231 (fun r2 h2 => r2 = r ∧ h2 = h1) 0 0 [some (.inr (.inr a1)), none, none, none] [] h) : am_cd (d + 1) 231 [.inr (.inr a1)] h r h1 := by
  refine ⟨⟨by rw [ml231]; simp [am_en], by rw [np231]; rfl⟩, ?_⟩
  rw [ml231]; exact H
theorem oc0 : am_oc 0 = 11 := by decide +kernel
theorem fd0_0 : am_fd 0 704 = some (some 1) := by decide +kernel
theorem fd0_1 : am_fd 0 705 = some (some 7) := by decide +kernel
theorem fd0_2 : am_fd 0 706 = some (some 11) := by decide +kernel
theorem fd0_3 : am_fd 0 707 = some (some 17) := by decide +kernel
theorem fd0_4 : am_fd 0 708 = some (some 24) := by decide +kernel
theorem fd0_5 : am_fd 0 709 = some (some 32) := by decide +kernel
theorem fd0_6 : am_fd 0 710 = some (some 33) := by decide +kernel
theorem fd0_7 : am_fd 0 711 = some (some 39) := by decide +kernel
theorem fd0_8 : am_fd 0 712 = some (some 44) := by decide +kernel
theorem fd0_9 : am_fd 0 713 = some (some 47) := by decide +kernel
theorem fd0_10 : am_fd 0 714 = some (some 51) := by decide +kernel
theorem fd0_11 : am_fd 0 715 = some (some 55) := by decide +kernel
theorem fd0_12 : am_fd 0 716 = some none := by decide +kernel
theorem fd0_13 : am_fd 0 717 = some none := by decide +kernel
theorem oc1 : am_oc 1 = 6 := by decide +kernel
theorem fd1_0 : am_fd 1 384 = some none := by decide +kernel
theorem fd1_1 : am_fd 1 385 = some (some 2) := by decide +kernel
theorem fd1_2 : am_fd 1 386 = some (some 3) := by decide +kernel
theorem fd1_3 : am_fd 1 387 = some (some 4) := by decide +kernel
theorem fd1_4 : am_fd 1 388 = some (some 5) := by decide +kernel
theorem fd1_5 : am_fd 1 389 = some (some 6) := by decide +kernel
theorem al2 (h : am_H) : am_al h 2 = some 12 := rfl
theorem al3 (h : am_H) : am_al h 3 = some 12 := rfl
theorem al4 (h : am_H) : am_al h 4 = some 12 := rfl
theorem al5 (h : am_H) : am_al h 5 = some 144 := rfl
theorem al6 (h : am_H) : am_al h 6 = some 12 := rfl
theorem oc7 : am_oc 7 = 1 := by decide +kernel
theorem fd7_0 : am_fd 7 64 = some none := by decide +kernel
theorem fd7_1 : am_fd 7 65 = some (some 8) := by decide +kernel
theorem fd7_2 : am_fd 7 66 = some (some 9) := by decide +kernel
theorem fd7_3 : am_fd 7 67 = some (some 10) := by decide +kernel
theorem al8 (h : am_H) : am_al h 8 = some 20 := rfl
theorem al9 (h : am_H) : am_al h 9 = some 20 := rfl
theorem al10 (h : am_H) : am_al h 10 = some 20 := rfl
theorem oc11 : am_oc 11 = 4 := by decide +kernel
theorem fd11_0 : am_fd 11 256 = some none := by decide +kernel
theorem fd11_1 : am_fd 11 257 = some (some 12) := by decide +kernel
theorem fd11_2 : am_fd 11 258 = some (some 13) := by decide +kernel
theorem fd11_3 : am_fd 11 259 = some none := by decide +kernel
theorem fd11_4 : am_fd 11 260 = some (some 14) := by decide +kernel
theorem fd11_5 : am_fd 11 261 = some (some 15) := by decide +kernel
theorem fd11_6 : am_fd 11 262 = some (some 16) := by decide +kernel
theorem al12 (h : am_H) : am_al h 12 = some 30 := rfl
theorem al13 (h : am_H) : am_al h 13 = some 240 := rfl
theorem al14 (h : am_H) : am_al h 14 = some 8 := rfl
theorem al15 (h : am_H) : am_al h 15 = some 900 := rfl
theorem al16 (h : am_H) : am_al h 16 = some 9 := rfl
theorem oc17 : am_oc 17 = 0 := by decide +kernel
theorem fd17_0 : am_fd 17 0 = some (some 7) := by decide +kernel
theorem fd17_1 : am_fd 17 1 = some none := by decide +kernel
theorem fd17_2 : am_fd 17 2 = some (some 18) := by decide +kernel
theorem fd17_3 : am_fd 17 3 = some (some 19) := by decide +kernel
theorem fd17_4 : am_fd 17 4 = some (some 20) := by decide +kernel
theorem fd17_5 : am_fd 17 5 = some (some 21) := by decide +kernel
theorem fd17_6 : am_fd 17 6 = some (some 22) := by decide +kernel
theorem fd17_7 : am_fd 17 7 = some (some 23) := by decide +kernel
theorem al18 (h : am_H) : am_al h 18 = some 60 := rfl
theorem al19 (h : am_H) : am_al h 19 = some 60 := rfl
theorem al20 (h : am_H) : am_al h 20 = some 60 := rfl
theorem al21 (h : am_H) : am_al h 21 = some 60 := rfl
theorem al22 (h : am_H) : am_al h 22 = some 60 := rfl
theorem al23 (h : am_H) : am_al h 23 = some 30 := rfl
theorem oc24 : am_oc 24 = 9 := by decide +kernel
theorem fd24_0 : am_fd 24 576 = some (some 11) := by decide +kernel
theorem fd24_1 : am_fd 24 577 = some none := by decide +kernel
theorem fd24_2 : am_fd 24 578 = some (some 25) := by decide +kernel
theorem fd24_3 : am_fd 24 579 = some (some 26) := by decide +kernel
theorem fd24_4 : am_fd 24 580 = some (some 27) := by decide +kernel
theorem fd24_5 : am_fd 24 581 = some (some 28) := by decide +kernel
theorem fd24_6 : am_fd 24 582 = some (some 29) := by decide +kernel
theorem fd24_7 : am_fd 24 583 = some (some 30) := by decide +kernel
theorem fd24_8 : am_fd 24 584 = some none := by decide +kernel
theorem fd24_9 : am_fd 24 585 = some (some 31) := by decide +kernel
theorem al25 (h : am_H) : am_al h 25 = some 80 := rfl
theorem al26 (h : am_H) : am_al h 26 = some 4 := rfl
theorem al27 (h : am_H) : am_al h 27 = some 48 := rfl
theorem al28 (h : am_H) : am_al h 28 = some 48 := rfl
theorem al29 (h : am_H) : am_al h 29 = some 48 := rfl
theorem al30 (h : am_H) : am_al h 30 = some 48 := rfl
theorem al31 (h : am_H) : am_al h 31 = some 8 := rfl
theorem oc32 : am_oc 32 = 2 := by decide +kernel
theorem fd32_0 : am_fd 32 128 = some (some 1) := by decide +kernel
theorem fd32_1 : am_fd 32 129 = some (some 17) := by decide +kernel
theorem fd32_2 : am_fd 32 130 = some none := by decide +kernel
theorem fd32_3 : am_fd 32 131 = some none := by decide +kernel
theorem fd32_4 : am_fd 32 132 = some none := by decide +kernel
theorem fd32_5 : am_fd 32 133 = some none := by decide +kernel
theorem fd32_6 : am_fd 32 134 = some none := by decide +kernel
theorem fd32_7 : am_fd 32 135 = some none := by decide +kernel
theorem oc33 : am_oc 33 = 3 := by decide +kernel
theorem fd33_0 : am_fd 33 192 = some (some 1) := by decide +kernel
theorem fd33_1 : am_fd 33 193 = some (some 11) := by decide +kernel
theorem fd33_2 : am_fd 33 194 = some (some 17) := by decide +kernel
theorem fd33_3 : am_fd 33 195 = some (some 34) := by decide +kernel
theorem fd33_4 : am_fd 33 196 = some (some 35) := by decide +kernel
theorem fd33_5 : am_fd 33 197 = some (some 36) := by decide +kernel
theorem fd33_6 : am_fd 33 198 = some (some 37) := by decide +kernel
theorem fd33_7 : am_fd 33 199 = some (some 38) := by decide +kernel
theorem fd33_8 : am_fd 33 200 = some none := by decide +kernel
theorem fd33_9 : am_fd 33 201 = some none := by decide +kernel
theorem al34 (h : am_H) : am_al h 34 = some 72 := rfl
theorem al35 (h : am_H) : am_al h 35 = some 100 := rfl
theorem al36 (h : am_H) : am_al h 36 = some 40 := rfl
theorem al37 (h : am_H) : am_al h 37 = some 10 := rfl
theorem al38 (h : am_H) : am_al h 38 = some 10 := rfl
theorem oc39 : am_oc 39 = 10 := by decide +kernel
theorem fd39_0 : am_fd 39 640 = some (some 1) := by decide +kernel
theorem fd39_1 : am_fd 39 641 = some none := by decide +kernel
theorem fd39_2 : am_fd 39 642 = some (some 40) := by decide +kernel
theorem fd39_3 : am_fd 39 643 = some (some 41) := by decide +kernel
theorem fd39_4 : am_fd 39 644 = some (some 42) := by decide +kernel
theorem fd39_5 : am_fd 39 645 = some (some 43) := by decide +kernel
theorem fd39_6 : am_fd 39 646 = some none := by decide +kernel
theorem al40 (h : am_H) : am_al h 40 = some 8 := rfl
theorem al41 (h : am_H) : am_al h 41 = some 64 := rfl
theorem al42 (h : am_H) : am_al h 42 = some 896 := rfl
theorem al43 (h : am_H) : am_al h 43 = some 7 := rfl
theorem oc44 : am_oc 44 = 8 := by decide +kernel
theorem fd44_0 : am_fd 44 512 = some (some 1) := by decide +kernel
theorem fd44_1 : am_fd 44 513 = some (some 45) := by decide +kernel
theorem fd44_2 : am_fd 44 514 = some (some 46) := by decide +kernel
theorem al45 (h : am_H) : am_al h 45 = some 12 := rfl
theorem al46 (h : am_H) : am_al h 46 = some 12 := rfl
theorem oc47 : am_oc 47 = 7 := by decide +kernel
theorem fd47_0 : am_fd 47 448 = some (some 48) := by decide +kernel
theorem fd47_1 : am_fd 47 449 = some (some 49) := by decide +kernel
theorem fd47_2 : am_fd 47 450 = some (some 50) := by decide +kernel
theorem al48 (h : am_H) : am_al h 48 = some 4 := rfl
theorem al49 (h : am_H) : am_al h 49 = some 4 := rfl
theorem al50 (h : am_H) : am_al h 50 = some 80 := rfl
theorem oc51 : am_oc 51 = 5 := by decide +kernel
theorem fd51_0 : am_fd 51 320 = some none := by decide +kernel
theorem fd51_1 : am_fd 51 321 = some (some 52) := by decide +kernel
theorem fd51_2 : am_fd 51 322 = some (some 53) := by decide +kernel
theorem fd51_3 : am_fd 51 323 = some (some 54) := by decide +kernel
theorem al52 (h : am_H) : am_al h 52 = some 6 := rfl
theorem al53 (h : am_H) : am_al h 53 = some 6 := rfl
theorem al54 (h : am_H) : am_al h 54 = some 6 := rfl
theorem al55 (h : am_H) : am_al h 55 = some 30 := rfl
theorem oc56 : am_oc 56 = 12 := by decide +kernel
theorem fd56_0 : am_fd 56 768 = some (some 57) := by decide +kernel
theorem fd56_1 : am_fd 56 769 = some (some 58) := by decide +kernel
theorem fd56_2 : am_fd 56 770 = some none := by decide +kernel
theorem fd56_3 : am_fd 56 771 = some none := by decide +kernel
theorem fd56_4 : am_fd 56 772 = some (some 59) := by decide +kernel
theorem fd56_5 : am_fd 56 773 = some (some 60) := by decide +kernel
theorem fd56_6 : am_fd 56 774 = some (some 61) := by decide +kernel
theorem fd56_7 : am_fd 56 775 = some (some 62) := by decide +kernel
theorem fd56_8 : am_fd 56 776 = some (some 63) := by decide +kernel
theorem fd56_9 : am_fd 56 777 = some (some 64) := by decide +kernel
theorem fd56_10 : am_fd 56 778 = some (some 65) := by decide +kernel
theorem fd56_11 : am_fd 56 779 = some (some 66) := by decide +kernel
theorem fd56_12 : am_fd 56 780 = some (some 67) := by decide +kernel
theorem fd56_13 : am_fd 56 781 = some (some 68) := by decide +kernel
theorem fd56_14 : am_fd 56 782 = some none := by decide +kernel
theorem fd56_15 : am_fd 56 783 = some none := by decide +kernel
theorem fd56_16 : am_fd 56 784 = some none := by decide +kernel
theorem fd56_17 : am_fd 56 785 = some (some 69) := by decide +kernel
theorem fd56_18 : am_fd 56 786 = some (some 70) := by decide +kernel
theorem fd56_19 : am_fd 56 787 = some (some 71) := by decide +kernel
theorem fd56_20 : am_fd 56 788 = some (some 72) := by decide +kernel
theorem fd56_21 : am_fd 56 789 = some none := by decide +kernel
theorem fd56_22 : am_fd 56 790 = some (some 73) := by decide +kernel
theorem fd56_23 : am_fd 56 791 = some (some 74) := by decide +kernel
theorem fd56_24 : am_fd 56 792 = some (some 75) := by decide +kernel
theorem fd56_25 : am_fd 56 793 = some none := by decide +kernel
theorem fd56_26 : am_fd 56 794 = some none := by decide +kernel
theorem fd56_27 : am_fd 56 795 = some none := by decide +kernel
theorem fd56_28 : am_fd 56 796 = some (some 76) := by decide +kernel
theorem fd56_29 : am_fd 56 797 = some (some 77) := by decide +kernel
theorem fd56_30 : am_fd 56 798 = some (some 78) := by decide +kernel
theorem fd56_31 : am_fd 56 799 = some (some 79) := by decide +kernel
theorem al57 (h : am_H) : am_al h 57 = some 820 := rfl
theorem al58 (h : am_H) : am_al h 58 = some 4920 := rfl
theorem al59 (h : am_H) : am_al h 59 = some 12 := rfl
theorem al60 (h : am_H) : am_al h 60 = some 81 := rfl
theorem al61 (h : am_H) : am_al h 61 = some 120 := rfl
theorem al62 (h : am_H) : am_al h 62 = some 72 := rfl
theorem al63 (h : am_H) : am_al h 63 = some 80 := rfl
theorem al64 (h : am_H) : am_al h 64 = some 4 := rfl
theorem al65 (h : am_H) : am_al h 65 = some 192 := rfl
theorem al66 (h : am_H) : am_al h 66 = some 48 := rfl
theorem al67 (h : am_H) : am_al h 67 = some 8 := rfl
theorem al68 (h : am_H) : am_al h 68 = some 8 := rfl
theorem al69 (h : am_H) : am_al h 69 = some 144 := rfl
theorem al70 (h : am_H) : am_al h 70 = some 900 := rfl
theorem al71 (h : am_H) : am_al h 71 = some 12 := rfl
theorem al72 (h : am_H) : am_al h 72 = some 12 := rfl
theorem al73 (h : am_H) : am_al h 73 = some 144 := rfl
theorem al74 (h : am_H) : am_al h 74 = some 8 := rfl
theorem al75 (h : am_H) : am_al h 75 = some 8 := rfl
theorem al76 (h : am_H) : am_al h 76 = some 4 := rfl
theorem al77 (h : am_H) : am_al h 77 = some 4 := rfl
theorem al78 (h : am_H) : am_al h 78 = some 80 := rfl
theorem al79 (h : am_H) : am_al h 79 = some 20 := rfl
theorem al2000 (h : am_H) : am_al h 2000 = some (h 1000 1).toNat := rfl
theorem al2001 (h : am_H) : am_al h 2001 = some 4 := rfl
theorem al2002 (h : am_H) : am_al h 2002 = some 8 := rfl
theorem al2003 (h : am_H) : am_al h 2003 = some 8 := rfl
