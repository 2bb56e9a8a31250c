theorem rd_j {h : am_H} {p : Nat} {j j1 w : Int} (hj : j = j1) (H : h p j1 = w) : h p j = w := by subst hj; exact H
theorem ag_n {h : am_H} {p : Nat} {j j1 v : Int} (hp : p < 1000) (hj : j = j1) (H : h p j1 = v) : am_ag h p j = v := ag_l (Nat.ble_eq_true_of_le (by omega)) hj H
theorem oc0 : am_oc 0 = 11 := by decide +kernel
theorem fd0_0 : am_fd 0 704 = some (some 1) := by decide +kernel
theorem fd0_1 : am_fd 0 705 = some (some 7) := by decide +kernel
theorem fd0_2 : am_fd 0 706 = some (some 11) := by decide +kernel
theorem fd0_3 : am_fd 0 707 = some (some 17) := by decide +kernel
theorem fd0_4 : am_fd 0 708 = some (some 24) := by decide +kernel
theorem fd0_5 : am_fd 0 709 = some (some 32) := by decide +kernel
theorem fd0_6 : am_fd 0 710 = some (some 33) := by decide +kernel
theorem fd0_7 : am_fd 0 711 = some (some 39) := by decide +kernel
theorem fd0_8 : am_fd 0 712 = some (some 44) := by decide +kernel
theorem fd0_9 : am_fd 0 713 = some (some 47) := by decide +kernel
theorem fd0_10 : am_fd 0 714 = some (some 51) := by decide +kernel
theorem fd0_11 : am_fd 0 715 = some (some 55) := by decide +kernel
theorem fd0_12 : am_fd 0 716 = some none := by decide +kernel
theorem fd0_13 : am_fd 0 717 = some none := by decide +kernel
theorem oc1 : am_oc 1 = 6 := by decide +kernel
theorem fd1_0 : am_fd 1 384 = some none := by decide +kernel
theorem fd1_1 : am_fd 1 385 = some (some 2) := by decide +kernel
theorem fd1_2 : am_fd 1 386 = some (some 3) := by decide +kernel
theorem fd1_3 : am_fd 1 387 = some (some 4) := by decide +kernel
theorem fd1_4 : am_fd 1 388 = some (some 5) := by decide +kernel
theorem fd1_5 : am_fd 1 389 = some (some 6) := by decide +kernel
theorem al2 (h : am_H) : am_al h 2 = some 12 := rfl
theorem al3 (h : am_H) : am_al h 3 = some 12 := rfl
theorem al4 (h : am_H) : am_al h 4 = some 12 := rfl
theorem al5 (h : am_H) : am_al h 5 = some 144 := rfl
theorem al6 (h : am_H) : am_al h 6 = some 12 := rfl
theorem oc7 : am_oc 7 = 1 := by decide +kernel
theorem fd7_0 : am_fd 7 64 = some none := by decide +kernel
theorem fd7_1 : am_fd 7 65 = some (some 8) := by decide +kernel
theorem fd7_2 : am_fd 7 66 = some (some 9) := by decide +kernel
theorem fd7_3 : am_fd 7 67 = some (some 10) := by decide +kernel
theorem al8 (h : am_H) : am_al h 8 = some 20 := rfl
theorem al9 (h : am_H) : am_al h 9 = some 20 := rfl
theorem al10 (h : am_H) : am_al h 10 = some 20 := rfl
theorem oc11 : am_oc 11 = 4 := by decide +kernel
theorem fd11_0 : am_fd 11 256 = some none := by decide +kernel
theorem fd11_1 : am_fd 11 257 = some (some 12) := by decide +kernel
theorem fd11_2 : am_fd 11 258 = some (some 13) := by decide +kernel
theorem fd11_3 : am_fd 11 259 = some none := by decide +kernel
theorem fd11_4 : am_fd 11 260 = some (some 14) := by decide +kernel
theorem fd11_5 : am_fd 11 261 = some (some 15) := by decide +kernel
theorem fd11_6 : am_fd 11 262 = some (some 16) := by decide +kernel
theorem al12 (h : am_H) : am_al h 12 = some 30 := rfl
theorem al13 (h : am_H) : am_al h 13 = some 240 := rfl
theorem al14 (h : am_H) : am_al h 14 = some 8 := rfl
theorem al15 (h : am_H) : am_al h 15 = some 900 := rfl
theorem al16 (h : am_H) : am_al h 16 = some 9 := rfl
theorem oc17 : am_oc 17 = 0 := by decide +kernel
theorem fd17_0 : am_fd 17 0 = some (some 7) := by decide +kernel
theorem fd17_1 : am_fd 17 1 = some none := by decide +kernel
theorem fd17_2 : am_fd 17 2 = some (some 18) := by decide +kernel
theorem fd17_3 : am_fd 17 3 = some (some 19) := by decide +kernel
theorem fd17_4 : am_fd 17 4 = some (some 20) := by decide +kernel
theorem fd17_5 : am_fd 17 5 = some (some 21) := by decide +kernel
theorem fd17_6 : am_fd 17 6 = some (some 22) := by decide +kernel
theorem fd17_7 : am_fd 17 7 = some (some 23) := by decide +kernel
theorem al18 (h : am_H) : am_al h 18 = some 60 := rfl
theorem al19 (h : am_H) : am_al h 19 = some 60 := rfl
theorem al20 (h : am_H) : am_al h 20 = some 60 := rfl
theorem al21 (h : am_H) : am_al h 21 = some 60 := rfl
theorem al22 (h : am_H) : am_al h 22 = some 60 := rfl
theorem al23 (h : am_H) : am_al h 23 = some 30 := rfl
theorem oc24 : am_oc 24 = 9 := by decide +kernel
theorem fd24_0 : am_fd 24 576 = some (some 11) := by decide +kernel
theorem fd24_1 : am_fd 24 577 = some none := by decide +kernel
theorem fd24_2 : am_fd 24 578 = some (some 25) := by decide +kernel
theorem fd24_3 : am_fd 24 579 = some (some 26) := by decide +kernel
theorem fd24_4 : am_fd 24 580 = some (some 27) := by decide +kernel
theorem fd24_5 : am_fd 24 581 = some (some 28) := by decide +kernel
theorem fd24_6 : am_fd 24 582 = some (some 29) := by decide +kernel
theorem fd24_7 : am_fd 24 583 = some (some 30) := by decide +kernel
theorem fd24_8 : am_fd 24 584 = some none := by decide +kernel
theorem fd24_9 : am_fd 24 585 = some (some 31) := by decide +kernel
theorem al25 (h : am_H) : am_al h 25 = some 80 := rfl
theorem al26 (h : am_H) : am_al h 26 = some 4 := rfl
theorem al27 (h : am_H) : am_al h 27 = some 48 := rfl
theorem al28 (h : am_H) : am_al h 28 = some 48 := rfl
theorem al29 (h : am_H) : am_al h 29 = some 48 := rfl
theorem al30 (h : am_H) : am_al h 30 = some 48 := rfl
theorem al31 (h : am_H) : am_al h 31 = some 8 := rfl
theorem oc32 : am_oc 32 = 2 := by decide +kernel
theorem fd32_0 : am_fd 32 128 = some (some 1) := by decide +kernel
theorem fd32_1 : am_fd 32 129 = some (some 17) := by decide +kernel
theorem fd32_2 : am_fd 32 130 = some none := by decide +kernel
theorem fd32_3 : am_fd 32 131 = some none := by decide +kernel
theorem fd32_4 : am_fd 32 132 = some none := by decide +kernel
theorem fd32_5 : am_fd 32 133 = some none := by decide +kernel
theorem fd32_6 : am_fd 32 134 = some none := by decide +kernel
theorem fd32_7 : am_fd 32 135 = some none := by decide +kernel
theorem oc33 : am_oc 33 = 3 := by decide +kernel
theorem fd33_0 : am_fd 33 192 = some (some 1) := by decide +kernel
theorem fd33_1 : am_fd 33 193 = some (some 11) := by decide +kernel
theorem fd33_2 : am_fd 33 194 = some (some 17) := by decide +kernel
theorem fd33_3 : am_fd 33 195 = some (some 34) := by decide +kernel
theorem fd33_4 : am_fd 33 196 = some (some 35) := by decide +kernel
theorem fd33_5 : am_fd 33 197 = some (some 36) := by decide +kernel
theorem fd33_6 : am_fd 33 198 = some (some 37) := by decide +kernel
theorem fd33_7 : am_fd 33 199 = some (some 38) := by decide +kernel
theorem fd33_8 : am_fd 33 200 = some none := by decide +kernel
theorem fd33_9 : am_fd 33 201 = some none := by decide +kernel
theorem al34 (h : am_H) : am_al h 34 = some 72 := rfl
theorem al35 (h : am_H) : am_al h 35 = some 100 := rfl
theorem al36 (h : am_H) : am_al h 36 = some 40 := rfl
theorem al37 (h : am_H) : am_al h 37 = some 10 := rfl
theorem al38 (h : am_H) : am_al h 38 = some 10 := rfl
theorem oc39 : am_oc 39 = 10 := by decide +kernel
theorem fd39_0 : am_fd 39 640 = some (some 1) := by decide +kernel
theorem fd39_1 : am_fd 39 641 = some none := by decide +kernel
theorem fd39_2 : am_fd 39 642 = some (some 40) := by decide +kernel
theorem fd39_3 : am_fd 39 643 = some (some 41) := by decide +kernel
theorem fd39_4 : am_fd 39 644 = some (some 42) := by decide +kernel
theorem fd39_5 : am_fd 39 645 = some (some 43) := by decide +kernel
theorem fd39_6 : am_fd 39 646 = some none := by decide +kernel
theorem al40 (h : am_H) : am_al h 40 = some 8 := rfl
theorem al41 (h : am_H) : am_al h 41 = some 64 := rfl
theorem al42 (h : am_H) : am_al h 42 = some 896 := rfl
theorem al43 (h : am_H) : am_al h 43 = some 7 := rfl
theorem oc44 : am_oc 44 = 8 := by decide +kernel
theorem fd44_0 : am_fd 44 512 = some (some 1) := by decide +kernel
theorem fd44_1 : am_fd 44 513 = some (some 45) := by decide +kernel
theorem fd44_2 : am_fd 44 514 = some (some 46) := by decide +kernel
theorem al45 (h : am_H) : am_al h 45 = some 12 := rfl
theorem al46 (h : am_H) : am_al h 46 = some 12 := rfl
theorem oc47 : am_oc 47 = 7 := by decide +kernel
theorem fd47_0 : am_fd 47 448 = some (some 48) := by decide +kernel
theorem fd47_1 : am_fd 47 449 = some (some 49) := by decide +kernel
theorem fd47_2 : am_fd 47 450 = some (some 50) := by decide +kernel
theorem al48 (h : am_H) : am_al h 48 = some 4 := rfl
theorem al49 (h : am_H) : am_al h 49 = some 4 := rfl
theorem al50 (h : am_H) : am_al h 50 = some 80 := rfl
theorem oc51 : am_oc 51 = 5 := by decide +kernel
theorem fd51_0 : am_fd 51 320 = some none := by decide +kernel
theorem fd51_1 : am_fd 51 321 = some (some 52) := by decide +kernel
theorem fd51_2 : am_fd 51 322 = some (some 53) := by decide +kernel
theorem fd51_3 : am_fd 51 323 = some (some 54) := by decide +kernel
theorem al52 (h : am_H) : am_al h 52 = some 6 := rfl
theorem al53 (h : am_H) : am_al h 53 = some 6 := rfl
theorem al54 (h : am_H) : am_al h 54 = some 6 := rfl
theorem al55 (h : am_H) : am_al h 55 = some 30 := rfl
theorem oc56 : am_oc 56 = 12 := by decide +kernel
theorem fd56_0 : am_fd 56 768 = some (some 57) := by decide +kernel
theorem fd56_1 : am_fd 56 769 = some (some 58) := by decide +kernel
theorem fd56_2 : am_fd 56 770 = some none := by decide +kernel
theorem fd56_3 : am_fd 56 771 = some none := by decide +kernel
theorem fd56_4 : am_fd 56 772 = some (some 59) := by decide +kernel
theorem fd56_5 : am_fd 56 773 = some (some 60) := by decide +kernel
theorem fd56_6 : am_fd 56 774 = some (some 61) := by decide +kernel
theorem fd56_7 : am_fd 56 775 = some (some 62) := by decide +kernel
theorem fd56_8 : am_fd 56 776 = some (some 63) := by decide +kernel
theorem fd56_9 : am_fd 56 777 = some (some 64) := by decide +kernel
theorem fd56_10 : am_fd 56 778 = some (some 65) := by decide +kernel
theorem fd56_11 : am_fd 56 779 = some (some 66) := by decide +kernel
theorem fd56_12 : am_fd 56 780 = some (some 67) := by decide +kernel
theorem fd56_13 : am_fd 56 781 = some (some 68) := by decide +kernel
theorem fd56_14 : am_fd 56 782 = some none := by decide +kernel
theorem fd56_15 : am_fd 56 783 = some none := by decide +kernel
theorem fd56_16 : am_fd 56 784 = some none := by decide +kernel
theorem fd56_17 : am_fd 56 785 = some (some 69) := by decide +kernel
theorem fd56_18 : am_fd 56 786 = some (some 70) := by decide +kernel
theorem fd56_19 : am_fd 56 787 = some (some 71) := by decide +kernel
theorem fd56_20 : am_fd 56 788 = some (some 72) := by decide +kernel
theorem fd56_21 : am_fd 56 789 = some none := by decide +kernel
theorem fd56_22 : am_fd 56 790 = some (some 73) := by decide +kernel
theorem fd56_23 : am_fd 56 791 = some (some 74) := by decide +kernel
theorem fd56_24 : am_fd 56 792 = some (some 75) := by decide +kernel
theorem fd56_25 : am_fd 56 793 = some none := by decide +kernel
theorem fd56_26 : am_fd 56 794 = some none := by decide +kernel
theorem fd56_27 : am_fd 56 795 = some none := by decide +kernel
theorem fd56_28 : am_fd 56 796 = some (some 76) := by decide +kernel
theorem fd56_29 : am_fd 56 797 = some (some 77) := by decide +kernel
theorem fd56_30 : am_fd 56 798 = some (some 78) := by decide +kernel
theorem fd56_31 : am_fd 56 799 = some (some 79) := by decide +kernel
theorem al57 (h : am_H) : am_al h 57 = some 820 := rfl
theorem al58 (h : am_H) : am_al h 58 = some 4920 := rfl
theorem al59 (h : am_H) : am_al h 59 = some 12 := rfl
theorem al60 (h : am_H) : am_al h 60 = some 81 := rfl
theorem al61 (h : am_H) : am_al h 61 = some 120 := rfl
theorem al62 (h : am_H) : am_al h 62 = some 72 := rfl
theorem al63 (h : am_H) : am_al h 63 = some 80 := rfl
theorem al64 (h : am_H) : am_al h 64 = some 4 := rfl
theorem al65 (h : am_H) : am_al h 65 = some 192 := rfl
theorem al66 (h : am_H) : am_al h 66 = some 48 := rfl
theorem al67 (h : am_H) : am_al h 67 = some 8 := rfl
theorem al68 (h : am_H) : am_al h 68 = some 8 := rfl
theorem al69 (h : am_H) : am_al h 69 = some 144 := rfl
theorem al70 (h : am_H) : am_al h 70 = some 900 := rfl
theorem al71 (h : am_H) : am_al h 71 = some 12 := rfl
theorem al72 (h : am_H) : am_al h 72 = some 12 := rfl
theorem al73 (h : am_H) : am_al h 73 = some 144 := rfl
theorem al74 (h : am_H) : am_al h 74 = some 8 := rfl
theorem al75 (h : am_H) : am_al h 75 = some 8 := rfl
theorem al76 (h : am_H) : am_al h 76 = some 4 := rfl
theorem al77 (h : am_H) : am_al h 77 = some 4 := rfl
theorem al78 (h : am_H) : am_al h 78 = some 80 := rfl
theorem al79 (h : am_H) : am_al h 79 = some 20 := rfl
theorem al2000 (h : am_H) : am_al h 2000 = some (h 1000 1).toNat := rfl
theorem al2001 (h : am_H) : am_al h 2001 = some 4 := rfl
theorem al2002 (h : am_H) : am_al h 2002 = some 8 := rfl
theorem al2003 (h : am_H) : am_al h 2003 = some 8 := rfl
theorem q0c0 (i : Nat) {pc : Nat} {e : am_E} (hi : am_t0[i]? = some (pc, e)) : am_look 0 pc = some e := lk_of (l := am_t0) rfl (fun _ q => q) hi
theorem zb0 : am_zb 0 = false := by decide +kernel
theorem ml0 : am_ml 0 = 1 := by decide +kernel
theorem ab0 : am_ab 0 = 0 := by decide +kernel
theorem np0 : 1 = am_np 0 + (if am_sc 0 then 0 else 1) := by decide +kernel
theorem q1c0 (i : Nat) {pc : Nat} {e : am_E} (hi : am_t1[i]? = some (pc, e)) : am_look 1 pc = some e := lk_of (l := am_t1) rfl (fun _ q => q) hi
theorem zb1 : am_zb 1 = true := by decide +kernel
theorem ml1 : am_ml 1 = 2 := by decide +kernel
theorem ab1 : am_ab 1 = 0 := by decide +kernel
theorem np1 : 2 = am_np 1 + (if am_sc 1 then 0 else 1) := by decide +kernel
theorem q2c0 (i : Nat) {pc : Nat} {e : am_E} (hi : am_t2[i]? = some (pc, e)) : am_look 2 pc = some e := lk_of (l := am_t2) rfl (fun _ q => q) hi
theorem zb2 : am_zb 2 = false := by decide +kernel
theorem ml2 : am_ml 2 = 5 := by decide +kernel
theorem ab2 : am_ab 2 = 0 := by decide +kernel
theorem np2 : 5 = am_np 2 + (if am_sc 2 then 0 else 1) := by decide +kernel
theorem q3c0 (i : Nat) {pc : Nat} {e : am_E} (hi : am_t3[i]? = some (pc, e)) : am_look 3 pc = some e := lk_of (l := am_t3) rfl (fun _ q => q) hi
theorem zb3 : am_zb 3 = false := by decide +kernel
theorem ml3 : am_ml 3 = 1 := by decide +kernel
theorem ab3 : am_ab 3 = 0 := by decide +kernel
theorem np3 : 1 = am_np 3 + (if am_sc 3 then 0 else 1) := by decide +kernel
theorem q4c0 (i : Nat) {pc : Nat} {e : am_E} (hi : am_t4[i]? = some (pc, e)) : am_look 4 pc = some e := lk_of (l := am_t4) rfl (fun _ q => q) hi
theorem zb4 : am_zb 4 = true := by decide +kernel
theorem ml4 : am_ml 4 = 2 := by decide +kernel
theorem ab4 : am_ab 4 = 0 := by decide +kernel
theorem np4 : 2 = am_np 4 + (if am_sc 4 then 0 else 1) := by decide +kernel
theorem q5c0 (i : Nat) {pc : Nat} {e : am_E} (hi : am_t5[i]? = some (pc, e)) : am_look 5 pc = some e := lk_of (l := am_t5) rfl (fun _ q => q) hi
theorem zb5 : am_zb 5 = false := by decide +kernel
theorem ml5 : am_ml 5 = 3 := by decide +kernel
theorem ab5 : am_ab 5 = 0 := by decide +kernel
theorem np5 : 3 = am_np 5 + (if am_sc 5 then 0 else 1) := by decide +kernel
theorem q6c0 (i : Nat) {pc : Nat} {e : am_E} (hi : am_t6[i]? = some (pc, e)) : am_look 6 pc = some e := lk_of (l := am_t6) rfl (fun _ q => q) hi
theorem zb6 : am_zb 6 = false := by decide +kernel
theorem ml6 : am_ml 6 = 2 := by decide +kernel
theorem ab6 : am_ab 6 = 0 := by decide +kernel
theorem np6 : 2 = am_np 6 + (if am_sc 6 then 0 else 1) := by decide +kernel
theorem q7c0 (i : Nat) {pc : Nat} {e : am_E} (hi : am_t7[i]? = some (pc, e)) : am_look 7 pc = some e := lk_of (l := am_t7) rfl (fun _ q => q) hi
theorem zb7 : am_zb 7 = false := by decide +kernel
theorem ml7 : am_ml 7 = 3 := by decide +kernel
theorem ab7 : am_ab 7 = 0 := by decide +kernel
theorem np7 : 3 = am_np 7 + (if am_sc 7 then 0 else 1) := by decide +kernel
theorem q8c0 (i : Nat) {pc : Nat} {e : am_E} (hi : am_t8[i]? = some (pc, e)) : am_look 8 pc = some e := lk_of (l := am_t8) rfl (fun _ q => q) hi
theorem zb8 : am_zb 8 = true := by decide +kernel
theorem ml8 : am_ml 8 = 3 := by decide +kernel
theorem ab8 : am_ab 8 = 0 := by decide +kernel
theorem np8 : 3 = am_np 8 + (if am_sc 8 then 0 else 1) := by decide +kernel
theorem q9c0 (i : Nat) {pc : Nat} {e : am_E} (hi : am_t9[i]? = some (pc, e)) : am_look 9 pc = some e := lk_of (l := am_t9) rfl (fun _ q => q) hi
theorem zb9 : am_zb 9 = true := by decide +kernel
theorem ml9 : am_ml 9 = 1 := by decide +kernel
theorem ab9 : am_ab 9 = 0 := by decide +kernel
theorem np9 : 1 = am_np 9 + (if am_sc 9 then 0 else 1) := by decide +kernel
theorem q10c0 (i : Nat) {pc : Nat} {e : am_E} (hi : am_t10[i]? = some (pc, e)) : am_look 10 pc = some e := lk_of (l := am_t10) rfl (fun _ q => q) hi
theorem zb10 : am_zb 10 = false := by decide +kernel
theorem ml10 : am_ml 10 = 1 := by decide +kernel
theorem ab10 : am_ab 10 = 0 := by decide +kernel
theorem np10 : 1 = am_np 10 + (if am_sc 10 then 0 else 1) := by decide +kernel
theorem q11c0 (i : Nat) {pc : Nat} {e : am_E} (hi : am_t11[i]? = some (pc, e)) : am_look 11 pc = some e := lk_of (l := am_t11) rfl (fun _ q => q) hi
theorem zb11 : am_zb 11 = true := by decide +kernel
theorem ml11 : am_ml 11 = 2 := by decide +kernel
theorem ab11 : am_ab 11 = 0 := by decide +kernel
theorem np11 : 2 = am_np 11 + (if am_sc 11 then 0 else 1) := by decide +kernel
theorem q12c0 (i : Nat) {pc : Nat} {e : am_E} (hi : am_t12[i]? = some (pc, e)) : am_look 12 pc = some e := lk_of (l := am_t12) rfl (fun _ q => q) hi
theorem zb12 : am_zb 12 = false := by decide +kernel
theorem ml12 : am_ml 12 = 4 := by decide +kernel
theorem ab12 : am_ab 12 = 0 := by decide +kernel
theorem np12 : 4 = am_np 12 + (if am_sc 12 then 0 else 1) := by decide +kernel
theorem q13c0 (i : Nat) {pc : Nat} {e : am_E} (hi : am_t13[i]? = some (pc, e)) : am_look 13 pc = some e := lk_of (l := am_t13) rfl (fun _ q => q) hi
theorem zb13 : am_zb 13 = false := by decide +kernel
theorem ml13 : am_ml 13 = 1 := by decide +kernel
theorem ab13 : am_ab 13 = 0 := by decide +kernel
theorem np13 : 1 = am_np 13 + (if am_sc 13 then 0 else 1) := by decide +kernel
theorem q14c0 (i : Nat) {pc : Nat} {e : am_E} (hi : am_t14[i]? = some (pc, e)) : am_look 14 pc = some e := lk_of (l := am_t14) rfl (fun _ q => q) hi
theorem zb14 : am_zb 14 = false := by decide +kernel
theorem ml14 : am_ml 14 = 2 := by decide +kernel
theorem ab14 : am_ab 14 = 0 := by decide +kernel
theorem np14 : 2 = am_np 14 + (if am_sc 14 then 0 else 1) := by decide +kernel
theorem q15c0 (i : Nat) {pc : Nat} {e : am_E} (hi : am_t15[i]? = some (pc, e)) : am_look 15 pc = some e := lk_of (l := am_t15) rfl (fun _ q => q) hi
theorem zb15 : am_zb 15 = true := by decide +kernel
theorem ml15 : am_ml 15 = 5 := by decide +kernel
theorem ab15 : am_ab 15 = 0 := by decide +kernel
theorem np15 : 3 = am_np 15 + (if am_sc 15 then 0 else 1) := by decide +kernel
theorem q16c0 (i : Nat) {pc : Nat} {e : am_E} (hi : am_t16[i]? = some (pc, e)) : am_look 16 pc = some e := lk_of (l := am_t16) rfl (fun _ q => q) hi
theorem zb16 : am_zb 16 = false := by decide +kernel
theorem ml16 : am_ml 16 = 3 := by decide +kernel
theorem ab16 : am_ab 16 = 0 := by decide +kernel
theorem np16 : 2 = am_np 16 + (if am_sc 16 then 0 else 1) := by decide +kernel
theorem q17c0 (i : Nat) {pc : Nat} {e : am_E} (hi : am_t17[i]? = some (pc, e)) : am_look 17 pc = some e := lk_of (l := am_t17) rfl (fun _ q => q) hi
theorem zb17 : am_zb 17 = false := by decide +kernel
theorem ml17 : am_ml 17 = 2 := by decide +kernel
theorem ab17 : am_ab 17 = 0 := by decide +kernel
theorem np17 : 2 = am_np 17 + (if am_sc 17 then 0 else 1) := by decide +kernel
theorem q18c0 (i : Nat) {pc : Nat} {e : am_E} (hi : am_t18[i]? = some (pc, e)) : am_look 18 pc = some e := lk_of (l := am_t18) rfl (fun _ q => q) hi
theorem zb18 : am_zb 18 = false := by decide +kernel
theorem ml18 : am_ml 18 = 6 := by decide +kernel
theorem ab18 : am_ab 18 = 0 := by decide +kernel
theorem np18 : 5 = am_np 18 + (if am_sc 18 then 0 else 1) := by decide +kernel
theorem q19c0 (i : Nat) {pc : Nat} {e : am_E} (hi : am_t19[i]? = some (pc, e)) : am_look 19 pc = some e := lk_of (l := am_t19) rfl (fun _ q => q) hi
theorem zb19 : am_zb 19 = false := by decide +kernel
theorem ml19 : am_ml 19 = 5 := by decide +kernel
theorem ab19 : am_ab 19 = 0 := by decide +kernel
theorem np19 : 4 = am_np 19 + (if am_sc 19 then 0 else 1) := by decide +kernel
theorem q20c0 (i : Nat) {pc : Nat} {e : am_E} (hi : am_t20[i]? = some (pc, e)) : am_look 20 pc = some e := lk_of (l := am_t20) rfl (fun _ q => q) hi
theorem zb20 : am_zb 20 = false := by decide +kernel
theorem ml20 : am_ml 20 = 4 := by decide +kernel
theorem ab20 : am_ab 20 = 0 := by decide +kernel
theorem np20 : 4 = am_np 20 + (if am_sc 20 then 0 else 1) := by decide +kernel
theorem q21c0 (i : Nat) {pc : Nat} {e : am_E} (hi : am_t21[i]? = some (pc, e)) : am_look 21 pc = some e := lk_of (l := am_t21) rfl (fun _ q => q) hi
theorem zb21 : am_zb 21 = false := by decide +kernel
theorem ml21 : am_ml 21 = 1 := by decide +kernel
theorem ab21 : am_ab 21 = 0 := by decide +kernel
theorem np21 : 1 = am_np 21 + (if am_sc 21 then 0 else 1) := by decide +kernel
theorem q22c0 (i : Nat) {pc : Nat} {e : am_E} (hi : am_t22[i]? = some (pc, e)) : am_look 22 pc = some e := lk_of (l := am_t22) rfl (fun _ q => q) hi
theorem zb22 : am_zb 22 = false := by decide +kernel
theorem ml22 : am_ml 22 = 2 := by decide +kernel
theorem ab22 : am_ab 22 = 0 := by decide +kernel
theorem np22 : 2 = am_np 22 + (if am_sc 22 then 0 else 1) := by decide +kernel
theorem q23c0 (i : Nat) {pc : Nat} {e : am_E} (hi : am_t23[i]? = some (pc, e)) : am_look 23 pc = some e := lk_of (l := am_t23) rfl (fun _ q => q) hi
theorem zb23 : am_zb 23 = false := by decide +kernel
theorem ml23 : am_ml 23 = 1 := by decide +kernel
theorem ab23 : am_ab 23 = 0 := by decide +kernel
theorem np23 : 1 = am_np 23 + (if am_sc 23 then 0 else 1) := by decide +kernel
theorem q24c0 (i : Nat) {pc : Nat} {e : am_E} (hi : am_t24[i]? = some (pc, e)) : am_look 24 pc = some e := lk_of (l := am_t24) rfl (fun _ q => q) hi
theorem zb24 : am_zb 24 = true := by decide +kernel
theorem ml24 : am_ml 24 = 2 := by decide +kernel
theorem ab24 : am_ab 24 = 0 := by decide +kernel
theorem np24 : 2 = am_np 24 + (if am_sc 24 then 0 else 1) := by decide +kernel
theorem q25c0 (i : Nat) {pc : Nat} {e : am_E} (hi : am_t25[i]? = some (pc, e)) : am_look 25 pc = some e := lk_of (l := am_t25) rfl (fun _ q => q) hi
theorem zb25 : am_zb 25 = false := by decide +kernel
theorem ml25 : am_ml 25 = 2 := by decide +kernel
theorem ab25 : am_ab 25 = 0 := by decide +kernel
theorem np25 : 2 = am_np 25 + (if am_sc 25 then 0 else 1) := by decide +kernel
theorem q26c0 (i : Nat) {pc : Nat} {e : am_E} (hi : am_t26[i]? = some (pc, e)) : am_look 26 pc = some e := lk_of (l := am_t26) rfl (fun _ q => q) hi
theorem zb26 : am_zb 26 = false := by decide +kernel
theorem ml26 : am_ml 26 = 3 := by decide +kernel
theorem ab26 : am_ab 26 = 0 := by decide +kernel
theorem np26 : 3 = am_np 26 + (if am_sc 26 then 0 else 1) := by decide +kernel
theorem q27c0 (i : Nat) {pc : Nat} {e : am_E} (hi : am_t27[i]? = some (pc, e)) : am_look 27 pc = some e := lk_of (l := am_t27) rfl (fun _ q => q) hi
theorem zb27 : am_zb 27 = true := by decide +kernel
theorem ml27 : am_ml 27 = 5 := by decide +kernel
theorem ab27 : am_ab 27 = 0 := by decide +kernel
theorem np27 : 3 = am_np 27 + (if am_sc 27 then 0 else 1) := by decide +kernel
theorem q28c0 (i : Nat) {pc : Nat} {e : am_E} (hi : am_t28[i]? = some (pc, e)) : am_look 28 pc = some e := lk_of (l := am_t28) rfl (fun _ q => q) hi
theorem zb28 : am_zb 28 = false := by decide +kernel
theorem ml28 : am_ml 28 = 2 := by decide +kernel
theorem ab28 : am_ab 28 = 0 := by decide +kernel
theorem np28 : 2 = am_np 28 + (if am_sc 28 then 0 else 1) := by decide +kernel
theorem q29c0 (i : Nat) {pc : Nat} {e : am_E} (hi : am_t29[i]? = some (pc, e)) : am_look 29 pc = some e := lk_of (l := am_t29) rfl (fun _ q => q) hi
theorem zb29 : am_zb 29 = false := by decide +kernel
theorem ml29 : am_ml 29 = 2 := by decide +kernel
theorem ab29 : am_ab 29 = 0 := by decide +kernel
theorem np29 : 2 = am_np 29 + (if am_sc 29 then 0 else 1) := by decide +kernel
theorem q30c0 (i : Nat) {pc : Nat} {e : am_E} (hi : am_t30[i]? = some (pc, e)) : am_look 30 pc = some e := lk_of (l := am_t30) rfl (fun _ q => q) hi
theorem zb30 : am_zb 30 = false := by decide +kernel
theorem ml30 : am_ml 30 = 1 := by decide +kernel
theorem ab30 : am_ab 30 = 0 := by decide +kernel
theorem np30 : 1 = am_np 30 + (if am_sc 30 then 0 else 1) := by decide +kernel
theorem q31c0 (i : Nat) {pc : Nat} {e : am_E} (hi : am_t31[i]? = some (pc, e)) : am_look 31 pc = some e := lk_of (l := am_t31) rfl (fun _ q => q) hi
theorem zb31 : am_zb 31 = false := by decide +kernel
theorem ml31 : am_ml 31 = 1 := by decide +kernel
theorem ab31 : am_ab 31 = 0 := by decide +kernel
theorem np31 : 1 = am_np 31 + (if am_sc 31 then 0 else 1) := by decide +kernel
theorem q32c0 (i : Nat) {pc : Nat} {e : am_E} (hi : am_t32[i]? = some (pc, e)) : am_look 32 pc = some e := lk_of (l := am_t32) rfl (fun _ q => q) hi
theorem zb32 : am_zb 32 = false := by decide +kernel
theorem ml32 : am_ml 32 = 1 := by decide +kernel
theorem ab32 : am_ab 32 = 0 := by decide +kernel
theorem np32 : 1 = am_np 32 + (if am_sc 32 then 0 else 1) := by decide +kernel
theorem q33c0 (i : Nat) {pc : Nat} {e : am_E} (hi : am_t33[i]? = some (pc, e)) : am_look 33 pc = some e := lk_of (l := am_t33) rfl (fun _ q => q) hi
theorem zb33 : am_zb 33 = false := by decide +kernel
theorem ml33 : am_ml 33 = 1 := by decide +kernel
theorem ab33 : am_ab 33 = 0 := by decide +kernel
theorem np33 : 1 = am_np 33 + (if am_sc 33 then 0 else 1) := by decide +kernel
theorem q34c0 (i : Nat) {pc : Nat} {e : am_E} (hi : am_t34[i]? = some (pc, e)) : am_look 34 pc = some e := lk_of (l := am_t34) rfl (fun _ q => q) hi
theorem zb34 : am_zb 34 = false := by decide +kernel
theorem ml34 : am_ml 34 = 1 := by decide +kernel
theorem ab34 : am_ab 34 = 0 := by decide +kernel
theorem np34 : 1 = am_np 34 + (if am_sc 34 then 0 else 1) := by decide +kernel
theorem q35c0 (i : Nat) {pc : Nat} {e : am_E} (hi : am_t35[i]? = some (pc, e)) : am_look 35 pc = some e := lk_of (l := am_t35) rfl (fun _ q => q) hi
theorem zb35 : am_zb 35 = false := by decide +kernel
theorem ml35 : am_ml 35 = 1 := by decide +kernel
theorem ab35 : am_ab 35 = 0 := by decide +kernel
theorem np35 : 1 = am_np 35 + (if am_sc 35 then 0 else 1) := by decide +kernel
theorem q36c0 (i : Nat) {pc : Nat} {e : am_E} (hi : am_t36[i]? = some (pc, e)) : am_look 36 pc = some e := lk_of (l := am_t36) rfl (fun _ q => q) hi
theorem zb36 : am_zb 36 = false := by decide +kernel
theorem ml36 : am_ml 36 = 1 := by decide +kernel
theorem ab36 : am_ab 36 = 0 := by decide +kernel
theorem np36 : 1 = am_np 36 + (if am_sc 36 then 0 else 1) := by decide +kernel
theorem q37c0 (i : Nat) {pc : Nat} {e : am_E} (hi : am_t37[i]? = some (pc, e)) : am_look 37 pc = some e := lk_of (l := am_t37) rfl (fun _ q => q) hi
theorem zb37 : am_zb 37 = true := by decide +kernel
theorem ml37 : am_ml 37 = 2 := by decide +kernel
theorem ab37 : am_ab 37 = 0 := by decide +kernel
theorem np37 : 2 = am_np 37 + (if am_sc 37 then 0 else 1) := by decide +kernel
theorem q38c0 (i : Nat) {pc : Nat} {e : am_E} (hi : am_t38[i]? = some (pc, e)) : am_look 38 pc = some e := lk_of (l := am_t38) rfl (fun _ q => q) hi
theorem zb38 : am_zb 38 = false := by decide +kernel
theorem ml38 : am_ml 38 = 1 := by decide +kernel
theorem ab38 : am_ab 38 = 0 := by decide +kernel
theorem np38 : 1 = am_np 38 + (if am_sc 38 then 0 else 1) := by decide +kernel
theorem q39c0 (i : Nat) {pc : Nat} {e : am_E} (hi : am_t39[i]? = some (pc, e)) : am_look 39 pc = some e := lk_of (l := am_t39) rfl (fun _ q => q) hi
theorem zb39 : am_zb 39 = false := by decide +kernel
theorem ml39 : am_ml 39 = 3 := by decide +kernel
theorem ab39 : am_ab 39 = 0 := by decide +kernel
theorem np39 : 3 = am_np 39 + (if am_sc 39 then 0 else 1) := by decide +kernel
theorem q40c0 (i : Nat) {pc : Nat} {e : am_E} (hi : am_t40[i]? = some (pc, e)) : am_look 40 pc = some e := lk_of (l := am_t40) rfl (fun _ q => q) hi
theorem zb40 : am_zb 40 = false := by decide +kernel
theorem ml40 : am_ml 40 = 1 := by decide +kernel
theorem ab40 : am_ab 40 = 0 := by decide +kernel
theorem np40 : 1 = am_np 40 + (if am_sc 40 then 0 else 1) := by decide +kernel
theorem q41c0 (i : Nat) {pc : Nat} {e : am_E} (hi : am_t41[i]? = some (pc, e)) : am_look 41 pc = some e := lk_of (l := am_t41) rfl (fun _ q => q) hi
theorem zb41 : am_zb 41 = false := by decide +kernel
theorem ml41 : am_ml 41 = 2 := by decide +kernel
theorem ab41 : am_ab 41 = 0 := by decide +kernel
theorem np41 : 2 = am_np 41 + (if am_sc 41 then 0 else 1) := by decide +kernel
theorem q42c0 (i : Nat) {pc : Nat} {e : am_E} (hi : am_t42[i]? = some (pc, e)) : am_look 42 pc = some e := lk_of (l := am_t42) rfl (fun _ q => q) hi
theorem zb42 : am_zb 42 = false := by decide +kernel
theorem ml42 : am_ml 42 = 2 := by decide +kernel
theorem ab42 : am_ab 42 = 0 := by decide +kernel
theorem np42 : 2 = am_np 42 + (if am_sc 42 then 0 else 1) := by decide +kernel
theorem q43c0 (i : Nat) {pc : Nat} {e : am_E} (hi : am_t43[i]? = some (pc, e)) : am_look 43 pc = some e := lk_of (l := am_t43) rfl (fun _ q => q) hi
theorem zb43 : am_zb 43 = false := by decide +kernel
theorem ml43 : am_ml 43 = 2 := by decide +kernel
theorem ab43 : am_ab 43 = 0 := by decide +kernel
theorem np43 : 2 = am_np 43 + (if am_sc 43 then 0 else 1) := by decide +kernel
theorem q44c0 (i : Nat) {pc : Nat} {e : am_E} (hi : am_t44[i]? = some (pc, e)) : am_look 44 pc = some e := lk_of (l := am_t44) rfl (fun _ q => q) hi
theorem zb44 : am_zb 44 = false := by decide +kernel
theorem ml44 : am_ml 44 = 4 := by decide +kernel
theorem ab44 : am_ab 44 = 0 := by decide +kernel
theorem np44 : 2 = am_np 44 + (if am_sc 44 then 0 else 1) := by decide +kernel
theorem q45c0 (i : Nat) {pc : Nat} {e : am_E} (hi : am_t45[i]? = some (pc, e)) : am_look 45 pc = some e := lk_of (l := am_t45) rfl (fun _ q => q) hi
theorem zb45 : am_zb 45 = false := by decide +kernel
theorem ml45 : am_ml 45 = 3 := by decide +kernel
theorem ab45 : am_ab 45 = 0 := by decide +kernel
theorem np45 : 3 = am_np 45 + (if am_sc 45 then 0 else 1) := by decide +kernel
theorem q46c0 (i : Nat) {pc : Nat} {e : am_E} (hi : am_t46[i]? = some (pc, e)) : am_look 46 pc = some e := lk_of (l := am_t46) rfl (fun _ q => q) hi
theorem zb46 : am_zb 46 = false := by decide +kernel
theorem ml46 : am_ml 46 = 2 := by decide +kernel
theorem ab46 : am_ab 46 = 0 := by decide +kernel
theorem np46 : 2 = am_np 46 + (if am_sc 46 then 0 else 1) := by decide +kernel
theorem q47c0 (i : Nat) {pc : Nat} {e : am_E} (hi : am_t47[i]? = some (pc, e)) : am_look 47 pc = some e := lk_of (l := am_t47) rfl (fun _ q => q) hi
theorem zb47 : am_zb 47 = false := by decide +kernel
theorem ml47 : am_ml 47 = 2 := by decide +kernel
theorem ab47 : am_ab 47 = 0 := by decide +kernel
theorem np47 : 2 = am_np 47 + (if am_sc 47 then 0 else 1) := by decide +kernel
theorem q48c0 (i : Nat) {pc : Nat} {e : am_E} (hi : am_t48[i]? = some (pc, e)) : am_look 48 pc = some e := lk_of (l := am_t48) rfl (fun _ q => q) hi
theorem zb48 : am_zb 48 = false := by decide +kernel
theorem ml48 : am_ml 48 = 5 := by decide +kernel
theorem ab48 : am_ab 48 = 0 := by decide +kernel
theorem np48 : 2 = am_np 48 + (if am_sc 48 then 0 else 1) := by decide +kernel
theorem q49c0 (i : Nat) {pc : Nat} {e : am_E} (hi : am_t49[i]? = some (pc, e)) : am_look 49 pc = some e := lk_of (l := am_t49) rfl (fun _ q => q) hi
theorem zb49 : am_zb 49 = false := by decide +kernel
theorem ml49 : am_ml 49 = 2 := by decide +kernel
theorem ab49 : am_ab 49 = 0 := by decide +kernel
theorem np49 : 2 = am_np 49 + (if am_sc 49 then 0 else 1) := by decide +kernel
theorem q50c0 (i : Nat) {pc : Nat} {e : am_E} (hi : am_t50[i]? = some (pc, e)) : am_look 50 pc = some e := lk_of (l := am_t50) rfl (fun _ q => q) hi
theorem zb50 : am_zb 50 = true := by decide +kernel
theorem ml50 : am_ml 50 = 2 := by decide +kernel
theorem ab50 : am_ab 50 = 0 := by decide +kernel
theorem np50 : 2 = am_np 50 + (if am_sc 50 then 0 else 1) := by decide +kernel
theorem q51c0 (i : Nat) {pc : Nat} {e : am_E} (hi : am_t51[i]? = some (pc, e)) : am_look 51 pc = some e := lk_of (l := am_t51) rfl (fun _ q => q) hi
theorem zb51 : am_zb 51 = true := by decide +kernel
theorem ml51 : am_ml 51 = 1 := by decide +kernel
theorem ab51 : am_ab 51 = 0 := by decide +kernel
theorem np51 : 1 = am_np 51 + (if am_sc 51 then 0 else 1) := by decide +kernel
theorem q52c0 (i : Nat) {pc : Nat} {e : am_E} (hi : am_t52[i]? = some (pc, e)) : am_look 52 pc = some e := lk_of (l := am_t52) rfl (fun _ q => q) hi
theorem zb52 : am_zb 52 = true := by decide +kernel
theorem ml52 : am_ml 52 = 1 := by decide +kernel
theorem ab52 : am_ab 52 = 0 := by decide +kernel
theorem np52 : 1 = am_np 52 + (if am_sc 52 then 0 else 1) := by decide +kernel
theorem q53c0 (i : Nat) {pc : Nat} {e : am_E} (hi : am_t53[i]? = some (pc, e)) : am_look 53 pc = some e := lk_of (l := am_t53) rfl (fun _ q => q) hi
theorem zb53 : am_zb 53 = true := by decide +kernel
theorem ml53 : am_ml 53 = 2 := by decide +kernel
theorem ab53 : am_ab 53 = 0 := by decide +kernel
theorem np53 : 2 = am_np 53 + (if am_sc 53 then 0 else 1) := by decide +kernel
theorem q54c0 (i : Nat) {pc : Nat} {e : am_E} (hi : am_t54[i]? = some (pc, e)) : am_look 54 pc = some e := lk_of (l := am_t54) rfl (fun _ q => q) hi
theorem zb54 : am_zb 54 = false := by decide +kernel
theorem ml54 : am_ml 54 = 2 := by decide +kernel
theorem ab54 : am_ab 54 = 0 := by decide +kernel
theorem np54 : 2 = am_np 54 + (if am_sc 54 then 0 else 1) := by decide +kernel
theorem q55c0 (i : Nat) {pc : Nat} {e : am_E} (hi : am_t55[i]? = some (pc, e)) : am_look 55 pc = some e := lk_of (l := am_t55) rfl (fun _ q => q) hi
theorem zb55 : am_zb 55 = false := by decide +kernel
theorem ml55 : am_ml 55 = 2 := by decide +kernel
theorem ab55 : am_ab 55 = 0 := by decide +kernel
theorem np55 : 2 = am_np 55 + (if am_sc 55 then 0 else 1) := by decide +kernel
theorem q56c0 (i : Nat) {pc : Nat} {e : am_E} (hi : am_t56[i]? = some (pc, e)) : am_look 56 pc = some e := lk_of (l := am_t56) rfl (fun _ q => q) hi
theorem zb56 : am_zb 56 = false := by decide +kernel
theorem ml56 : am_ml 56 = 4 := by decide +kernel
theorem ab56 : am_ab 56 = 0 := by decide +kernel
theorem np56 : 4 = am_np 56 + (if am_sc 56 then 0 else 1) := by decide +kernel
theorem q57c0 (i : Nat) {pc : Nat} {e : am_E} (hi : am_t57[i]? = some (pc, e)) : am_look 57 pc = some e := lk_of (l := am_t57) rfl (fun _ q => q) hi
theorem zb57 : am_zb 57 = false := by decide +kernel
theorem ml57 : am_ml 57 = 3 := by decide +kernel
theorem ab57 : am_ab 57 = 0 := by decide +kernel
theorem np57 : 3 = am_np 57 + (if am_sc 57 then 0 else 1) := by decide +kernel
theorem q58c0 (i : Nat) {pc : Nat} {e : am_E} (hi : am_t58[i]? = some (pc, e)) : am_look 58 pc = some e := lk_of (l := am_t58) rfl (fun _ q => q) hi
theorem zb58 : am_zb 58 = true := by decide +kernel
theorem ml58 : am_ml 58 = 4 := by decide +kernel
theorem ab58 : am_ab 58 = 0 := by decide +kernel
theorem np58 : 4 = am_np 58 + (if am_sc 58 then 0 else 1) := by decide +kernel
theorem q59c0 (i : Nat) {pc : Nat} {e : am_E} (hi : am_t59[i]? = some (pc, e)) : am_look 59 pc = some e := lk_of (l := am_t59) rfl (fun _ q => q) hi
theorem zb59 : am_zb 59 = false := by decide +kernel
theorem ml59 : am_ml 59 = 6 := by decide +kernel
theorem ab59 : am_ab 59 = 0 := by decide +kernel
theorem np59 : 6 = am_np 59 + (if am_sc 59 then 0 else 1) := by decide +kernel
theorem q60c0 (i : Nat) {pc : Nat} {e : am_E} (hi : am_t60[i]? = some (pc, e)) : am_look 60 pc = some e := lk_of (l := am_t60) rfl (fun _ q => q) hi
theorem zb60 : am_zb 60 = true := by decide +kernel
theorem ml60 : am_ml 60 = 1 := by decide +kernel
theorem ab60 : am_ab 60 = 0 := by decide +kernel
theorem np60 : 1 = am_np 60 + (if am_sc 60 then 0 else 1) := by decide +kernel
theorem q61c0 (i : Nat) {pc : Nat} {e : am_E} (hi : am_t61[i]? = some (pc, e)) : am_look 61 pc = some e := lk_of (l := am_t61) rfl (fun _ q => q) hi
theorem zb61 : am_zb 61 = true := by decide +kernel
theorem ml61 : am_ml 61 = 2 := by decide +kernel
theorem ab61 : am_ab 61 = 0 := by decide +kernel
theorem np61 : 2 = am_np 61 + (if am_sc 61 then 0 else 1) := by decide +kernel
theorem q62c0 (i : Nat) {pc : Nat} {e : am_E} (hi : am_t62[i]? = some (pc, e)) : am_look 62 pc = some e := lk_of (l := am_t62) rfl (fun _ q => q) hi
theorem zb62 : am_zb 62 = false := by decide +kernel
theorem ml62 : am_ml 62 = 5 := by decide +kernel
theorem ab62 : am_ab 62 = 0 := by decide +kernel
theorem np62 : 3 = am_np 62 + (if am_sc 62 then 0 else 1) := by decide +kernel
theorem q63c0 (i : Nat) {pc : Nat} {e : am_E} (hi : am_t63[i]? = some (pc, e)) : am_look 63 pc = some e := lk_of (l := am_t63) rfl (fun _ q => q) hi
theorem zb63 : am_zb 63 = true := by decide +kernel
theorem ml63 : am_ml 63 = 1 := by decide +kernel
theorem ab63 : am_ab 63 = 0 := by decide +kernel
theorem np63 : 1 = am_np 63 + (if am_sc 63 then 0 else 1) := by decide +kernel
theorem q64c0 (i : Nat) {pc : Nat} {e : am_E} (hi : am_t64[i]? = some (pc, e)) : am_look 64 pc = some e := lk_of (l := am_t64) rfl (fun _ q => q) hi
theorem zb64 : am_zb 64 = false := by decide +kernel
theorem ml64 : am_ml 64 = 2 := by decide +kernel
theorem ab64 : am_ab 64 = 0 := by decide +kernel
theorem np64 : 2 = am_np 64 + (if am_sc 64 then 0 else 1) := by decide +kernel
theorem q65c0 (i : Nat) {pc : Nat} {e : am_E} (hi : am_t65[i]? = some (pc, e)) : am_look 65 pc = some e := lk_of (l := am_t65) rfl (fun _ q => q) hi
theorem zb65 : am_zb 65 = true := by decide +kernel
theorem ml65 : am_ml 65 = 2 := by decide +kernel
theorem ab65 : am_ab 65 = 0 := by decide +kernel
theorem np65 : 2 = am_np 65 + (if am_sc 65 then 0 else 1) := by decide +kernel
theorem q66c0 (i : Nat) {pc : Nat} {e : am_E} (hi : am_t66[i]? = some (pc, e)) : am_look 66 pc = some e := lk_of (l := am_t66) rfl (fun _ q => q) hi
theorem zb66 : am_zb 66 = false := by decide +kernel
theorem ml66 : am_ml 66 = 2 := by decide +kernel
theorem ab66 : am_ab 66 = 0 := by decide +kernel
theorem np66 : 2 = am_np 66 + (if am_sc 66 then 0 else 1) := by decide +kernel
theorem q67c0 (i : Nat) {pc : Nat} {e : am_E} (hi : am_t67[i]? = some (pc, e)) : am_look 67 pc = some e := lk_of (l := am_t67) rfl (fun _ q => q) hi
theorem zb67 : am_zb 67 = false := by decide +kernel
theorem ml67 : am_ml 67 = 1 := by decide +kernel
theorem ab67 : am_ab 67 = 0 := by decide +kernel
theorem np67 : 1 = am_np 67 + (if am_sc 67 then 0 else 1) := by decide +kernel
theorem q68c0 (i : Nat) {pc : Nat} {e : am_E} (hi : am_t68[i]? = some (pc, e)) : am_look 68 pc = some e := lk_of (l := am_t68) rfl (fun _ q => q) hi
theorem zb68 : am_zb 68 = false := by decide +kernel
theorem ml68 : am_ml 68 = 2 := by decide +kernel
theorem ab68 : am_ab 68 = 0 := by decide +kernel
theorem np68 : 2 = am_np 68 + (if am_sc 68 then 0 else 1) := by decide +kernel
theorem q69c0 (i : Nat) {pc : Nat} {e : am_E} (hi : am_t69[i]? = some (pc, e)) : am_look 69 pc = some e := lk_of (l := am_t69) rfl (fun _ q => q) hi
theorem zb69 : am_zb 69 = false := by decide +kernel
theorem ml69 : am_ml 69 = 4 := by decide +kernel
theorem ab69 : am_ab 69 = 0 := by decide +kernel
theorem np69 : 4 = am_np 69 + (if am_sc 69 then 0 else 1) := by decide +kernel
theorem q70c0 (i : Nat) {pc : Nat} {e : am_E} (hi : am_t70[i]? = some (pc, e)) : am_look 70 pc = some e := lk_of (l := am_t70) rfl (fun _ q => q) hi
theorem zb70 : am_zb 70 = false := by decide +kernel
theorem ml70 : am_ml 70 = 2 := by decide +kernel
theorem ab70 : am_ab 70 = 0 := by decide +kernel
theorem np70 : 2 = am_np 70 + (if am_sc 70 then 0 else 1) := by decide +kernel
theorem q71c0 (i : Nat) {pc : Nat} {e : am_E} (hi : am_t71[i]? = some (pc, e)) : am_look 71 pc = some e := lk_of (l := am_t71) rfl (fun _ q => q) hi
theorem zb71 : am_zb 71 = true := by decide +kernel
theorem ml71 : am_ml 71 = 1 := by decide +kernel
theorem ab71 : am_ab 71 = 0 := by decide +kernel
theorem np71 : 1 = am_np 71 + (if am_sc 71 then 0 else 1) := by decide +kernel
theorem q72c0 (i : Nat) {pc : Nat} {e : am_E} (hi : am_t72[i]? = some (pc, e)) : am_look 72 pc = some e := lk_of (l := am_t72) rfl (fun _ q => q) hi
theorem zb72 : am_zb 72 = true := by decide +kernel
theorem ml72 : am_ml 72 = 1 := by decide +kernel
theorem ab72 : am_ab 72 = 0 := by decide +kernel
theorem np72 : 1 = am_np 72 + (if am_sc 72 then 0 else 1) := by decide +kernel
theorem q73c0 (i : Nat) {pc : Nat} {e : am_E} (hi : am_t73[i]? = some (pc, e)) : am_look 73 pc = some e := lk_of (l := am_t73) rfl (fun _ q => q) hi
theorem zb73 : am_zb 73 = true := by decide +kernel
theorem ml73 : am_ml 73 = 3 := by decide +kernel
theorem ab73 : am_ab 73 = 0 := by decide +kernel
theorem np73 : 3 = am_np 73 + (if am_sc 73 then 0 else 1) := by decide +kernel
theorem q74c0 (i : Nat) {pc : Nat} {e : am_E} (hi : am_t74[i]? = some (pc, e)) : am_look 74 pc = some e := lk_of (l := am_t74) rfl (fun _ q => q) hi
theorem zb74 : am_zb 74 = false := by decide +kernel
theorem ml74 : am_ml 74 = 2 := by decide +kernel
theorem ab74 : am_ab 74 = 0 := by decide +kernel
theorem np74 : 2 = am_np 74 + (if am_sc 74 then 0 else 1) := by decide +kernel
theorem q75c0 (i : Nat) {pc : Nat} {e : am_E} (hi : am_t75[i]? = some (pc, e)) : am_look 75 pc = some e := lk_of (l := am_t75) rfl (fun _ q => q) hi
theorem zb75 : am_zb 75 = false := by decide +kernel
theorem ml75 : am_ml 75 = 2 := by decide +kernel
theorem ab75 : am_ab 75 = 0 := by decide +kernel
theorem np75 : 2 = am_np 75 + (if am_sc 75 then 0 else 1) := by decide +kernel
theorem q76c0 (i : Nat) {pc : Nat} {e : am_E} (hi : am_t76[i]? = some (pc, e)) : am_look 76 pc = some e := lk_of (l := am_t76) rfl (fun _ q => q) hi
theorem zb76 : am_zb 76 = false := by decide +kernel
theorem ml76 : am_ml 76 = 3 := by decide +kernel
theorem ab76 : am_ab 76 = 0 := by decide +kernel
theorem np76 : 3 = am_np 76 + (if am_sc 76 then 0 else 1) := by decide +kernel
theorem q77c0 (i : Nat) {pc : Nat} {e : am_E} (hi : am_t77[i]? = some (pc, e)) : am_look 77 pc = some e := lk_of (l := am_t77) rfl (fun _ q => q) hi
theorem zb77 : am_zb 77 = false := by decide +kernel
theorem ml77 : am_ml 77 = 2 := by decide +kernel
theorem ab77 : am_ab 77 = 0 := by decide +kernel
theorem np77 : 1 = am_np 77 + (if am_sc 77 then 0 else 1) := by decide +kernel
theorem q78c0 (i : Nat) {pc : Nat} {e : am_E} (hi : am_t78[i]? = some (pc, e)) : am_look 78 pc = some e := lk_of (l := am_t78) rfl (fun _ q => q) hi
theorem zb78 : am_zb 78 = false := by decide +kernel
theorem ml78 : am_ml 78 = 3 := by decide +kernel
theorem ab78 : am_ab 78 = 0 := by decide +kernel
theorem np78 : 2 = am_np 78 + (if am_sc 78 then 0 else 1) := by decide +kernel
theorem q79c0 (i : Nat) {pc : Nat} {e : am_E} (hi : am_t79[i]? = some (pc, e)) : am_look 79 pc = some e := lk_of (l := am_t79) rfl (fun _ q => q) hi
theorem zb79 : am_zb 79 = false := by decide +kernel
theorem ml79 : am_ml 79 = 3 := by decide +kernel
theorem ab79 : am_ab 79 = 0 := by decide +kernel
theorem np79 : 3 = am_np 79 + (if am_sc 79 then 0 else 1) := by decide +kernel
theorem q80c0 (i : Nat) {pc : Nat} {e : am_E} (hi : am_t80[i]? = some (pc, e)) : am_look 80 pc = some e := lk_of (l := am_t80) rfl (fun _ q => q) hi
theorem zb80 : am_zb 80 = false := by decide +kernel
theorem ml80 : am_ml 80 = 2 := by decide +kernel
theorem ab80 : am_ab 80 = 0 := by decide +kernel
theorem np80 : 2 = am_np 80 + (if am_sc 80 then 0 else 1) := by decide +kernel
theorem q81c0 (i : Nat) {pc : Nat} {e : am_E} (hi : am_t81[i]? = some (pc, e)) : am_look 81 pc = some e := lk_of (l := am_t81) rfl (fun _ q => q) hi
theorem zb81 : am_zb 81 = true := by decide +kernel
theorem ml81 : am_ml 81 = 2 := by decide +kernel
theorem ab81 : am_ab 81 = 0 := by decide +kernel
theorem np81 : 2 = am_np 81 + (if am_sc 81 then 0 else 1) := by decide +kernel
theorem q82c0 (i : Nat) {pc : Nat} {e : am_E} (hi : am_t82[i]? = some (pc, e)) : am_look 82 pc = some e := lk_of (l := am_t82) rfl (fun _ q => q) hi
theorem zb82 : am_zb 82 = false := by decide +kernel
theorem ml82 : am_ml 82 = 3 := by decide +kernel
theorem ab82 : am_ab 82 = 0 := by decide +kernel
theorem np82 : 3 = am_np 82 + (if am_sc 82 then 0 else 1) := by decide +kernel
theorem q83c0 (i : Nat) {pc : Nat} {e : am_E} (hi : am_t83_0[i]? = some (pc, e)) : am_look 83 pc = some e := lk_of (l := am_t83) rfl (fun _ q => List.mem_append.mpr (.inl q)) hi
theorem q83c1 (i : Nat) {pc : Nat} {e : am_E} (hi : am_t83_1[i]? = some (pc, e)) : am_look 83 pc = some e := lk_of (l := am_t83) rfl (fun _ q => List.mem_append.mpr (.inr (q))) hi
theorem zb83 : am_zb 83 = false := by decide +kernel
theorem ml83 : am_ml 83 = 8 := by decide +kernel
theorem ab83 : am_ab 83 = 0 := by decide +kernel
theorem np83 : 5 = am_np 83 + (if am_sc 83 then 0 else 1) := by decide +kernel
theorem q84c0 (i : Nat) {pc : Nat} {e : am_E} (hi : am_t84_0[i]? = some (pc, e)) : am_look 84 pc = some e := lk_of (l := am_t84) rfl (fun _ q => List.mem_append.mpr (.inl q)) hi
theorem q84c1 (i : Nat) {pc : Nat} {e : am_E} (hi : am_t84_1[i]? = some (pc, e)) : am_look 84 pc = some e := lk_of (l := am_t84) rfl (fun _ q => List.mem_append.mpr (.inr (q))) hi
theorem zb84 : am_zb 84 = false := by decide +kernel
theorem ml84 : am_ml 84 = 7 := by decide +kernel
theorem ab84 : am_ab 84 = 0 := by decide +kernel
theorem np84 : 5 = am_np 84 + (if am_sc 84 then 0 else 1) := by decide +kernel
theorem q85c0 (i : Nat) {pc : Nat} {e : am_E} (hi : am_t85[i]? = some (pc, e)) : am_look 85 pc = some e := lk_of (l := am_t85) rfl (fun _ q => q) hi
theorem zb85 : am_zb 85 = false := by decide +kernel
theorem ml85 : am_ml 85 = 3 := by decide +kernel
theorem ab85 : am_ab 85 = 0 := by decide +kernel
theorem np85 : 1 = am_np 85 + (if am_sc 85 then 0 else 1) := by decide +kernel
theorem q86c0 (i : Nat) {pc : Nat} {e : am_E} (hi : am_t86[i]? = some (pc, e)) : am_look 86 pc = some e := lk_of (l := am_t86) rfl (fun _ q => q) hi
theorem zb86 : am_zb 86 = false := by decide +kernel
theorem ml86 : am_ml 86 = 1 := by decide +kernel
theorem ab86 : am_ab 86 = 0 := by decide +kernel
theorem np86 : 1 = am_np 86 + (if am_sc 86 then 0 else 1) := by decide +kernel
theorem q87c0 (i : Nat) {pc : Nat} {e : am_E} (hi : am_t87[i]? = some (pc, e)) : am_look 87 pc = some e := lk_of (l := am_t87) rfl (fun _ q => q) hi
theorem zb87 : am_zb 87 = false := by decide +kernel
theorem ml87 : am_ml 87 = 2 := by decide +kernel
theorem ab87 : am_ab 87 = 0 := by decide +kernel
theorem np87 : 2 = am_np 87 + (if am_sc 87 then 0 else 1) := by decide +kernel
theorem q88c0 (i : Nat) {pc : Nat} {e : am_E} (hi : am_t88[i]? = some (pc, e)) : am_look 88 pc = some e := lk_of (l := am_t88) rfl (fun _ q => q) hi
theorem zb88 : am_zb 88 = false := by decide +kernel
theorem ml88 : am_ml 88 = 2 := by decide +kernel
theorem ab88 : am_ab 88 = 0 := by decide +kernel
theorem np88 : 2 = am_np 88 + (if am_sc 88 then 0 else 1) := by decide +kernel
theorem q89c0 (i : Nat) {pc : Nat} {e : am_E} (hi : am_t89[i]? = some (pc, e)) : am_look 89 pc = some e := lk_of (l := am_t89) rfl (fun _ q => q) hi
theorem zb89 : am_zb 89 = false := by decide +kernel
theorem ml89 : am_ml 89 = 3 := by decide +kernel
theorem ab89 : am_ab 89 = 0 := by decide +kernel
theorem np89 : 3 = am_np 89 + (if am_sc 89 then 0 else 1) := by decide +kernel
theorem q90c0 (i : Nat) {pc : Nat} {e : am_E} (hi : am_t90[i]? = some (pc, e)) : am_look 90 pc = some e := lk_of (l := am_t90) rfl (fun _ q => q) hi
theorem zb90 : am_zb 90 = false := by decide +kernel
theorem ml90 : am_ml 90 = 4 := by decide +kernel
theorem ab90 : am_ab 90 = 0 := by decide +kernel
theorem np90 : 2 = am_np 90 + (if am_sc 90 then 0 else 1) := by decide +kernel
theorem q91c0 (i : Nat) {pc : Nat} {e : am_E} (hi : am_t91[i]? = some (pc, e)) : am_look 91 pc = some e := lk_of (l := am_t91) rfl (fun _ q => q) hi
theorem zb91 : am_zb 91 = false := by decide +kernel
theorem ml91 : am_ml 91 = 3 := by decide +kernel
theorem ab91 : am_ab 91 = 0 := by decide +kernel
theorem np91 : 1 = am_np 91 + (if am_sc 91 then 0 else 1) := by decide +kernel
theorem q92c0 (i : Nat) {pc : Nat} {e : am_E} (hi : am_t92_0[i]? = some (pc, e)) : am_look 92 pc = some e := lk_of (l := am_t92) rfl (fun _ q => List.mem_append.mpr (.inl q)) hi
theorem q92c1 (i : Nat) {pc : Nat} {e : am_E} (hi : am_t92_1[i]? = some (pc, e)) : am_look 92 pc = some e := lk_of (l := am_t92) rfl (fun _ q => List.mem_append.mpr (.inr (q))) hi
theorem zb92 : am_zb 92 = false := by decide +kernel
theorem ml92 : am_ml 92 = 7 := by decide +kernel
theorem ab92 : am_ab 92 = 0 := by decide +kernel
theorem np92 : 4 = am_np 92 + (if am_sc 92 then 0 else 1) := by decide +kernel
theorem q93c0 (i : Nat) {pc : Nat} {e : am_E} (hi : am_t93[i]? = some (pc, e)) : am_look 93 pc = some e := lk_of (l := am_t93) rfl (fun _ q => q) hi
theorem zb93 : am_zb 93 = false := by decide +kernel
theorem ml93 : am_ml 93 = 3 := by decide +kernel
theorem ab93 : am_ab 93 = 0 := by decide +kernel
theorem np93 : 3 = am_np 93 + (if am_sc 93 then 0 else 1) := by decide +kernel
theorem q94c0 (i : Nat) {pc : Nat} {e : am_E} (hi : am_t94[i]? = some (pc, e)) : am_look 94 pc = some e := lk_of (l := am_t94) rfl (fun _ q => q) hi
theorem zb94 : am_zb 94 = false := by decide +kernel
theorem ml94 : am_ml 94 = 8 := by decide +kernel
theorem ab94 : am_ab 94 = 0 := by decide +kernel
theorem np94 : 4 = am_np 94 + (if am_sc 94 then 0 else 1) := by decide +kernel
theorem q95c0 (i : Nat) {pc : Nat} {e : am_E} (hi : am_t95[i]? = some (pc, e)) : am_look 95 pc = some e := lk_of (l := am_t95) rfl (fun _ q => q) hi
theorem zb95 : am_zb 95 = true := by decide +kernel
theorem ml95 : am_ml 95 = 5 := by decide +kernel
theorem ab95 : am_ab 95 = 0 := by decide +kernel
theorem np95 : 4 = am_np 95 + (if am_sc 95 then 0 else 1) := by decide +kernel
theorem q96c0 (i : Nat) {pc : Nat} {e : am_E} (hi : am_t96_0[i]? = some (pc, e)) : am_look 96 pc = some e := lk_of (l := am_t96) rfl (fun _ q => List.mem_append.mpr (.inl q)) hi
theorem q96c1 (i : Nat) {pc : Nat} {e : am_E} (hi : am_t96_1[i]? = some (pc, e)) : am_look 96 pc = some e := lk_of (l := am_t96) rfl (fun _ q => List.mem_append.mpr (.inr (q))) hi
theorem zb96 : am_zb 96 = false := by decide +kernel
theorem ml96 : am_ml 96 = 8 := by decide +kernel
theorem ab96 : am_ab 96 = 0 := by decide +kernel
theorem np96 : 3 = am_np 96 + (if am_sc 96 then 0 else 1) := by decide +kernel
theorem q97c0 (i : Nat) {pc : Nat} {e : am_E} (hi : am_t97[i]? = some (pc, e)) : am_look 97 pc = some e := lk_of (l := am_t97) rfl (fun _ q => q) hi
theorem zb97 : am_zb 97 = false := by decide +kernel
theorem ml97 : am_ml 97 = 4 := by decide +kernel
theorem ab97 : am_ab 97 = 0 := by decide +kernel
theorem np97 : 4 = am_np 97 + (if am_sc 97 then 0 else 1) := by decide +kernel
theorem q98c0 (i : Nat) {pc : Nat} {e : am_E} (hi : am_t98[i]? = some (pc, e)) : am_look 98 pc = some e := lk_of (l := am_t98) rfl (fun _ q => q) hi
theorem zb98 : am_zb 98 = true := by decide +kernel
theorem ml98 : am_ml 98 = 2 := by decide +kernel
theorem ab98 : am_ab 98 = 0 := by decide +kernel
theorem np98 : 2 = am_np 98 + (if am_sc 98 then 0 else 1) := by decide +kernel
theorem q99c0 (i : Nat) {pc : Nat} {e : am_E} (hi : am_t99[i]? = some (pc, e)) : am_look 99 pc = some e := lk_of (l := am_t99) rfl (fun _ q => q) hi
theorem zb99 : am_zb 99 = false := by decide +kernel
theorem ml99 : am_ml 99 = 3 := by decide +kernel
theorem ab99 : am_ab 99 = 0 := by decide +kernel
theorem np99 : 3 = am_np 99 + (if am_sc 99 then 0 else 1) := by decide +kernel
theorem q100c0 (i : Nat) {pc : Nat} {e : am_E} (hi : am_t100[i]? = some (pc, e)) : am_look 100 pc = some e := lk_of (l := am_t100) rfl (fun _ q => q) hi
theorem zb100 : am_zb 100 = false := by decide +kernel
theorem ml100 : am_ml 100 = 4 := by decide +kernel
theorem ab100 : am_ab 100 = 0 := by decide +kernel
theorem np100 : 4 = am_np 100 + (if am_sc 100 then 0 else 1) := by decide +kernel
theorem q101c0 (i : Nat) {pc : Nat} {e : am_E} (hi : am_t101[i]? = some (pc, e)) : am_look 101 pc = some e := lk_of (l := am_t101) rfl (fun _ q => q) hi
theorem zb101 : am_zb 101 = false := by decide +kernel
theorem ml101 : am_ml 101 = 5 := by decide +kernel
theorem ab101 : am_ab 101 = 0 := by decide +kernel
theorem np101 : 2 = am_np 101 + (if am_sc 101 then 0 else 1) := by decide +kernel
theorem q102c0 (i : Nat) {pc : Nat} {e : am_E} (hi : am_t102[i]? = some (pc, e)) : am_look 102 pc = some e := lk_of (l := am_t102) rfl (fun _ q => q) hi
theorem zb102 : am_zb 102 = true := by decide +kernel
theorem ml102 : am_ml 102 = 2 := by decide +kernel
theorem ab102 : am_ab 102 = 0 := by decide +kernel
theorem np102 : 2 = am_np 102 + (if am_sc 102 then 0 else 1) := by decide +kernel
theorem q103c0 (i : Nat) {pc : Nat} {e : am_E} (hi : am_t103[i]? = some (pc, e)) : am_look 103 pc = some e := lk_of (l := am_t103) rfl (fun _ q => q) hi
theorem zb103 : am_zb 103 = false := by decide +kernel
theorem ml103 : am_ml 103 = 1 := by decide +kernel
theorem ab103 : am_ab 103 = 0 := by decide +kernel
theorem np103 : 1 = am_np 103 + (if am_sc 103 then 0 else 1) := by decide +kernel
theorem q104c0 (i : Nat) {pc : Nat} {e : am_E} (hi : am_t104_0[i]? = some (pc, e)) : am_look 104 pc = some e := lk_of (l := am_t104) rfl (fun _ q => List.mem_append.mpr (.inl q)) hi
theorem q104c1 (i : Nat) {pc : Nat} {e : am_E} (hi : am_t104_1[i]? = some (pc, e)) : am_look 104 pc = some e := lk_of (l := am_t104) rfl (fun _ q => List.mem_append.mpr (.inr (q))) hi
theorem zb104 : am_zb 104 = false := by decide +kernel
theorem ml104 : am_ml 104 = 9 := by decide +kernel
theorem ab104 : am_ab 104 = 0 := by decide +kernel
theorem np104 : 2 = am_np 104 + (if am_sc 104 then 0 else 1) := by decide +kernel
theorem q105c0 (i : Nat) {pc : Nat} {e : am_E} (hi : am_t105[i]? = some (pc, e)) : am_look 105 pc = some e := lk_of (l := am_t105) rfl (fun _ q => q) hi
theorem zb105 : am_zb 105 = false := by decide +kernel
theorem ml105 : am_ml 105 = 6 := by decide +kernel
theorem ab105 : am_ab 105 = 0 := by decide +kernel
theorem np105 : 3 = am_np 105 + (if am_sc 105 then 0 else 1) := by decide +kernel
theorem q106c0 (i : Nat) {pc : Nat} {e : am_E} (hi : am_t106[i]? = some (pc, e)) : am_look 106 pc = some e := lk_of (l := am_t106) rfl (fun _ q => q) hi
theorem zb106 : am_zb 106 = false := by decide +kernel
theorem ml106 : am_ml 106 = 3 := by decide +kernel
theorem ab106 : am_ab 106 = 0 := by decide +kernel
theorem np106 : 3 = am_np 106 + (if am_sc 106 then 0 else 1) := by decide +kernel
theorem q107c0 (i : Nat) {pc : Nat} {e : am_E} (hi : am_t107[i]? = some (pc, e)) : am_look 107 pc = some e := lk_of (l := am_t107) rfl (fun _ q => q) hi
theorem zb107 : am_zb 107 = false := by decide +kernel
theorem ml107 : am_ml 107 = 3 := by decide +kernel
theorem ab107 : am_ab 107 = 0 := by decide +kernel
theorem np107 : 3 = am_np 107 + (if am_sc 107 then 0 else 1) := by decide +kernel
theorem q108c0 (i : Nat) {pc : Nat} {e : am_E} (hi : am_t108[i]? = some (pc, e)) : am_look 108 pc = some e := lk_of (l := am_t108) rfl (fun _ q => q) hi
theorem zb108 : am_zb 108 = false := by decide +kernel
theorem ml108 : am_ml 108 = 3 := by decide +kernel
theorem ab108 : am_ab 108 = 0 := by decide +kernel
theorem np108 : 3 = am_np 108 + (if am_sc 108 then 0 else 1) := by decide +kernel
theorem q109c0 (i : Nat) {pc : Nat} {e : am_E} (hi : am_t109[i]? = some (pc, e)) : am_look 109 pc = some e := lk_of (l := am_t109) rfl (fun _ q => q) hi
theorem zb109 : am_zb 109 = false := by decide +kernel
theorem ml109 : am_ml 109 = 4 := by decide +kernel
theorem ab109 : am_ab 109 = 0 := by decide +kernel
theorem np109 : 3 = am_np 109 + (if am_sc 109 then 0 else 1) := by decide +kernel
theorem q110c0 (i : Nat) {pc : Nat} {e : am_E} (hi : am_t110[i]? = some (pc, e)) : am_look 110 pc = some e := lk_of (l := am_t110) rfl (fun _ q => q) hi
theorem zb110 : am_zb 110 = false := by decide +kernel
theorem ml110 : am_ml 110 = 2 := by decide +kernel
theorem ab110 : am_ab 110 = 0 := by decide +kernel
theorem np110 : 2 = am_np 110 + (if am_sc 110 then 0 else 1) := by decide +kernel
theorem q111c0 (i : Nat) {pc : Nat} {e : am_E} (hi : am_t111[i]? = some (pc, e)) : am_look 111 pc = some e := lk_of (l := am_t111) rfl (fun _ q => q) hi
theorem zb111 : am_zb 111 = false := by decide +kernel
theorem ml111 : am_ml 111 = 4 := by decide +kernel
theorem ab111 : am_ab 111 = 0 := by decide +kernel
theorem np111 : 4 = am_np 111 + (if am_sc 111 then 0 else 1) := by decide +kernel
theorem q112c0 (i : Nat) {pc : Nat} {e : am_E} (hi : am_t112_0[i]? = some (pc, e)) : am_look 112 pc = some e := lk_of (l := am_t112) rfl (fun _ q => List.mem_append.mpr (.inl q)) hi
theorem q112c1 (i : Nat) {pc : Nat} {e : am_E} (hi : am_t112_1[i]? = some (pc, e)) : am_look 112 pc = some e := lk_of (l := am_t112) rfl (fun _ q => List.mem_append.mpr (.inr (q))) hi
theorem zb112 : am_zb 112 = false := by decide +kernel
theorem ml112 : am_ml 112 = 6 := by decide +kernel
theorem ab112 : am_ab 112 = 0 := by decide +kernel
theorem np112 : 6 = am_np 112 + (if am_sc 112 then 0 else 1) := by decide +kernel
theorem q113c0 (i : Nat) {pc : Nat} {e : am_E} (hi : am_t113[i]? = some (pc, e)) : am_look 113 pc = some e := lk_of (l := am_t113) rfl (fun _ q => q) hi
theorem zb113 : am_zb 113 = true := by decide +kernel
theorem ml113 : am_ml 113 = 3 := by decide +kernel
theorem ab113 : am_ab 113 = 0 := by decide +kernel
theorem np113 : 3 = am_np 113 + (if am_sc 113 then 0 else 1) := by decide +kernel
theorem q114c0 (i : Nat) {pc : Nat} {e : am_E} (hi : am_t114[i]? = some (pc, e)) : am_look 114 pc = some e := lk_of (l := am_t114) rfl (fun _ q => q) hi
theorem zb114 : am_zb 114 = true := by decide +kernel
theorem ml114 : am_ml 114 = 2 := by decide +kernel
theorem ab114 : am_ab 114 = 0 := by decide +kernel
theorem np114 : 2 = am_np 114 + (if am_sc 114 then 0 else 1) := by decide +kernel
theorem q115c0 (i : Nat) {pc : Nat} {e : am_E} (hi : am_t115[i]? = some (pc, e)) : am_look 115 pc = some e := lk_of (l := am_t115) rfl (fun _ q => q) hi
theorem zb115 : am_zb 115 = true := by decide +kernel
theorem ml115 : am_ml 115 = 2 := by decide +kernel
theorem ab115 : am_ab 115 = 0 := by decide +kernel
theorem np115 : 2 = am_np 115 + (if am_sc 115 then 0 else 1) := by decide +kernel
theorem q116c0 (i : Nat) {pc : Nat} {e : am_E} (hi : am_t116[i]? = some (pc, e)) : am_look 116 pc = some e := lk_of (l := am_t116) rfl (fun _ q => q) hi
theorem zb116 : am_zb 116 = true := by decide +kernel
theorem ml116 : am_ml 116 = 1 := by decide +kernel
theorem ab116 : am_ab 116 = 0 := by decide +kernel
theorem np116 : 1 = am_np 116 + (if am_sc 116 then 0 else 1) := by decide +kernel
theorem q117c0 (i : Nat) {pc : Nat} {e : am_E} (hi : am_t117[i]? = some (pc, e)) : am_look 117 pc = some e := lk_of (l := am_t117) rfl (fun _ q => q) hi
theorem zb117 : am_zb 117 = true := by decide +kernel
theorem ml117 : am_ml 117 = 1 := by decide +kernel
theorem ab117 : am_ab 117 = 0 := by decide +kernel
theorem np117 : 1 = am_np 117 + (if am_sc 117 then 0 else 1) := by decide +kernel
theorem q118c0 (i : Nat) {pc : Nat} {e : am_E} (hi : am_t118[i]? = some (pc, e)) : am_look 118 pc = some e := lk_of (l := am_t118) rfl (fun _ q => q) hi
theorem zb118 : am_zb 118 = false := by decide +kernel
theorem ml118 : am_ml 118 = 2 := by decide +kernel
theorem ab118 : am_ab 118 = 0 := by decide +kernel
theorem np118 : 1 = am_np 118 + (if am_sc 118 then 0 else 1) := by decide +kernel
theorem q119c0 (i : Nat) {pc : Nat} {e : am_E} (hi : am_t119_0[i]? = some (pc, e)) : am_look 119 pc = some e := lk_of (l := am_t119) rfl (fun _ q => List.mem_append.mpr (.inl q)) hi
theorem q119c1 (i : Nat) {pc : Nat} {e : am_E} (hi : am_t119_1[i]? = some (pc, e)) : am_look 119 pc = some e := lk_of (l := am_t119) rfl (fun _ q => List.mem_append.mpr (.inr (q))) hi
theorem zb119 : am_zb 119 = false := by decide +kernel
theorem ml119 : am_ml 119 = 5 := by decide +kernel
theorem ab119 : am_ab 119 = 0 := by decide +kernel
theorem np119 : 3 = am_np 119 + (if am_sc 119 then 0 else 1) := by decide +kernel
theorem q120c0 (i : Nat) {pc : Nat} {e : am_E} (hi : am_t120_0[i]? = some (pc, e)) : am_look 120 pc = some e := lk_of (l := am_t120) rfl (fun _ q => List.mem_append.mpr (.inl q)) hi
theorem q120c1 (i : Nat) {pc : Nat} {e : am_E} (hi : am_t120_1[i]? = some (pc, e)) : am_look 120 pc = some e := lk_of (l := am_t120) rfl (fun _ q => List.mem_append.mpr (.inr (q))) hi
theorem zb120 : am_zb 120 = false := by decide +kernel
theorem ml120 : am_ml 120 = 6 := by decide +kernel
theorem ab120 : am_ab 120 = 0 := by decide +kernel
theorem np120 : 2 = am_np 120 + (if am_sc 120 then 0 else 1) := by decide +kernel
theorem q121c0 (i : Nat) {pc : Nat} {e : am_E} (hi : am_t121[i]? = some (pc, e)) : am_look 121 pc = some e := lk_of (l := am_t121) rfl (fun _ q => q) hi
theorem zb121 : am_zb 121 = false := by decide +kernel
theorem ml121 : am_ml 121 = 3 := by decide +kernel
theorem ab121 : am_ab 121 = 0 := by decide +kernel
theorem np121 : 2 = am_np 121 + (if am_sc 121 then 0 else 1) := by decide +kernel
theorem q122c0 (i : Nat) {pc : Nat} {e : am_E} (hi : am_t122[i]? = some (pc, e)) : am_look 122 pc = some e := lk_of (l := am_t122) rfl (fun _ q => q) hi
theorem zb122 : am_zb 122 = false := by decide +kernel
theorem ml122 : am_ml 122 = 4 := by decide +kernel
theorem ab122 : am_ab 122 = 0 := by decide +kernel
theorem np122 : 3 = am_np 122 + (if am_sc 122 then 0 else 1) := by decide +kernel
theorem q123c0 (i : Nat) {pc : Nat} {e : am_E} (hi : am_t123_0[i]? = some (pc, e)) : am_look 123 pc = some e := lk_of (l := am_t123) rfl (fun _ q => List.mem_append.mpr (.inl q)) hi
theorem q123c1 (i : Nat) {pc : Nat} {e : am_E} (hi : am_t123_1[i]? = some (pc, e)) : am_look 123 pc = some e := lk_of (l := am_t123) rfl (fun _ q => List.mem_append.mpr (.inr (List.mem_append.mpr (.inl q)))) hi
theorem q123c2 (i : Nat) {pc : Nat} {e : am_E} (hi : am_t123_2[i]? = some (pc, e)) : am_look 123 pc = some e := lk_of (l := am_t123) rfl (fun _ q => List.mem_append.mpr (.inr (List.mem_append.mpr (.inr (q))))) hi
theorem zb123 : am_zb 123 = false := by decide +kernel
theorem ml123 : am_ml 123 = 9 := by decide +kernel
theorem ab123 : am_ab 123 = 0 := by decide +kernel
theorem np123 : 3 = am_np 123 + (if am_sc 123 then 0 else 1) := by decide +kernel
theorem q124c0 (i : Nat) {pc : Nat} {e : am_E} (hi : am_t124_0[i]? = some (pc, e)) : am_look 124 pc = some e := lk_of (l := am_t124) rfl (fun _ q => List.mem_append.mpr (.inl q)) hi
theorem q124c1 (i : Nat) {pc : Nat} {e : am_E} (hi : am_t124_1[i]? = some (pc, e)) : am_look 124 pc = some e := lk_of (l := am_t124) rfl (fun _ q => List.mem_append.mpr (.inr (List.mem_append.mpr (.inl q)))) hi
theorem q124c2 (i : Nat) {pc : Nat} {e : am_E} (hi : am_t124_2[i]? = some (pc, e)) : am_look 124 pc = some e := lk_of (l := am_t124) rfl (fun _ q => List.mem_append.mpr (.inr (List.mem_append.mpr (.inr (q))))) hi
theorem zb124 : am_zb 124 = false := by decide +kernel
theorem ml124 : am_ml 124 = 8 := by decide +kernel
theorem ab124 : am_ab 124 = 0 := by decide +kernel
theorem np124 : 3 = am_np 124 + (if am_sc 124 then 0 else 1) := by decide +kernel
theorem q125c0 (i : Nat) {pc : Nat} {e : am_E} (hi : am_t125[i]? = some (pc, e)) : am_look 125 pc = some e := lk_of (l := am_t125) rfl (fun _ q => q) hi
theorem zb125 : am_zb 125 = false := by decide +kernel
theorem ml125 : am_ml 125 = 2 := by decide +kernel
theorem ab125 : am_ab 125 = 0 := by decide +kernel
theorem np125 : 2 = am_np 125 + (if am_sc 125 then 0 else 1) := by decide +kernel
theorem q126c0 (i : Nat) {pc : Nat} {e : am_E} (hi : am_t126[i]? = some (pc, e)) : am_look 126 pc = some e := lk_of (l := am_t126) rfl (fun _ q => q) hi
theorem zb126 : am_zb 126 = false := by decide +kernel
theorem ml126 : am_ml 126 = 3 := by decide +kernel
theorem ab126 : am_ab 126 = 0 := by decide +kernel
theorem np126 : 3 = am_np 126 + (if am_sc 126 then 0 else 1) := by decide +kernel
theorem q127c0 (i : Nat) {pc : Nat} {e : am_E} (hi : am_t127[i]? = some (pc, e)) : am_look 127 pc = some e := lk_of (l := am_t127) rfl (fun _ q => q) hi
theorem zb127 : am_zb 127 = false := by decide +kernel
theorem ml127 : am_ml 127 = 6 := by decide +kernel
theorem ab127 : am_ab 127 = 0 := by decide +kernel
theorem np127 : 4 = am_np 127 + (if am_sc 127 then 0 else 1) := by decide +kernel
theorem q128c0 (i : Nat) {pc : Nat} {e : am_E} (hi : am_t128[i]? = some (pc, e)) : am_look 128 pc = some e := lk_of (l := am_t128) rfl (fun _ q => q) hi
theorem zb128 : am_zb 128 = false := by decide +kernel
theorem ml128 : am_ml 128 = 5 := by decide +kernel
theorem ab128 : am_ab 128 = 0 := by decide +kernel
theorem np128 : 3 = am_np 128 + (if am_sc 128 then 0 else 1) := by decide +kernel
theorem q129c0 (i : Nat) {pc : Nat} {e : am_E} (hi : am_t129[i]? = some (pc, e)) : am_look 129 pc = some e := lk_of (l := am_t129) rfl (fun _ q => q) hi
theorem zb129 : am_zb 129 = false := by decide +kernel
theorem ml129 : am_ml 129 = 4 := by decide +kernel
theorem ab129 : am_ab 129 = 0 := by decide +kernel
theorem np129 : 2 = am_np 129 + (if am_sc 129 then 0 else 1) := by decide +kernel
theorem q130c0 (i : Nat) {pc : Nat} {e : am_E} (hi : am_t130[i]? = some (pc, e)) : am_look 130 pc = some e := lk_of (l := am_t130) rfl (fun _ q => q) hi
theorem zb130 : am_zb 130 = false := by decide +kernel
theorem ml130 : am_ml 130 = 2 := by decide +kernel
theorem ab130 : am_ab 130 = 0 := by decide +kernel
theorem np130 : 2 = am_np 130 + (if am_sc 130 then 0 else 1) := by decide +kernel
theorem q131c0 (i : Nat) {pc : Nat} {e : am_E} (hi : am_t131[i]? = some (pc, e)) : am_look 131 pc = some e := lk_of (l := am_t131) rfl (fun _ q => q) hi
theorem zb131 : am_zb 131 = true := by decide +kernel
theorem ml131 : am_ml 131 = 3 := by decide +kernel
theorem ab131 : am_ab 131 = 0 := by decide +kernel
theorem np131 : 3 = am_np 131 + (if am_sc 131 then 0 else 1) := by decide +kernel
theorem q132c0 (i : Nat) {pc : Nat} {e : am_E} (hi : am_t132[i]? = some (pc, e)) : am_look 132 pc = some e := lk_of (l := am_t132) rfl (fun _ q => q) hi
theorem zb132 : am_zb 132 = true := by decide +kernel
theorem ml132 : am_ml 132 = 4 := by decide +kernel
theorem ab132 : am_ab 132 = 0 := by decide +kernel
theorem np132 : 2 = am_np 132 + (if am_sc 132 then 0 else 1) := by decide +kernel
theorem q133c0 (i : Nat) {pc : Nat} {e : am_E} (hi : am_t133_0[i]? = some (pc, e)) : am_look 133 pc = some e := lk_of (l := am_t133) rfl (fun _ q => List.mem_append.mpr (.inl q)) hi
theorem q133c1 (i : Nat) {pc : Nat} {e : am_E} (hi : am_t133_1[i]? = some (pc, e)) : am_look 133 pc = some e := lk_of (l := am_t133) rfl (fun _ q => List.mem_append.mpr (.inr (q))) hi
theorem zb133 : am_zb 133 = false := by decide +kernel
theorem ml133 : am_ml 133 = 11 := by decide +kernel
theorem ab133 : am_ab 133 = 0 := by decide +kernel
theorem np133 : 7 = am_np 133 + (if am_sc 133 then 0 else 1) := by decide +kernel
theorem q134c0 (i : Nat) {pc : Nat} {e : am_E} (hi : am_t134_0[i]? = some (pc, e)) : am_look 134 pc = some e := lk_of (l := am_t134) rfl (fun _ q => List.mem_append.mpr (.inl q)) hi
theorem q134c1 (i : Nat) {pc : Nat} {e : am_E} (hi : am_t134_1[i]? = some (pc, e)) : am_look 134 pc = some e := lk_of (l := am_t134) rfl (fun _ q => List.mem_append.mpr (.inr (q))) hi
theorem zb134 : am_zb 134 = false := by decide +kernel
theorem ml134 : am_ml 134 = 7 := by decide +kernel
theorem ab134 : am_ab 134 = 0 := by decide +kernel
theorem np134 : 2 = am_np 134 + (if am_sc 134 then 0 else 1) := by decide +kernel
theorem q135c0 (i : Nat) {pc : Nat} {e : am_E} (hi : am_t135[i]? = some (pc, e)) : am_look 135 pc = some e := lk_of (l := am_t135) rfl (fun _ q => q) hi
theorem zb135 : am_zb 135 = true := by decide +kernel
theorem ml135 : am_ml 135 = 1 := by decide +kernel
theorem ab135 : am_ab 135 = 0 := by decide +kernel
theorem np135 : 1 = am_np 135 + (if am_sc 135 then 0 else 1) := by decide +kernel
theorem q136c0 (i : Nat) {pc : Nat} {e : am_E} (hi : am_t136_0[i]? = some (pc, e)) : am_look 136 pc = some e := lk_of (l := am_t136) rfl (fun _ q => List.mem_append.mpr (.inl q)) hi
theorem q136c1 (i : Nat) {pc : Nat} {e : am_E} (hi : am_t136_1[i]? = some (pc, e)) : am_look 136 pc = some e := lk_of (l := am_t136) rfl (fun _ q => List.mem_append.mpr (.inr (q))) hi
theorem zb136 : am_zb 136 = false := by decide +kernel
theorem ml136 : am_ml 136 = 5 := by decide +kernel
theorem ab136 : am_ab 136 = 0 := by decide +kernel
theorem np136 : 2 = am_np 136 + (if am_sc 136 then 0 else 1) := by decide +kernel
theorem q137c0 (i : Nat) {pc : Nat} {e : am_E} (hi : am_t137[i]? = some (pc, e)) : am_look 137 pc = some e := lk_of (l := am_t137) rfl (fun _ q => q) hi
theorem zb137 : am_zb 137 = false := by decide +kernel
theorem ml137 : am_ml 137 = 5 := by decide +kernel
theorem ab137 : am_ab 137 = 0 := by decide +kernel
theorem np137 : 4 = am_np 137 + (if am_sc 137 then 0 else 1) := by decide +kernel
theorem q138c0 (i : Nat) {pc : Nat} {e : am_E} (hi : am_t138[i]? = some (pc, e)) : am_look 138 pc = some e := lk_of (l := am_t138) rfl (fun _ q => q) hi
theorem zb138 : am_zb 138 = false := by decide +kernel
theorem ml138 : am_ml 138 = 5 := by decide +kernel
theorem ab138 : am_ab 138 = 0 := by decide +kernel
theorem np138 : 5 = am_np 138 + (if am_sc 138 then 0 else 1) := by decide +kernel
theorem q139c0 (i : Nat) {pc : Nat} {e : am_E} (hi : am_t139[i]? = some (pc, e)) : am_look 139 pc = some e := lk_of (l := am_t139) rfl (fun _ q => q) hi
theorem zb139 : am_zb 139 = false := by decide +kernel
theorem ml139 : am_ml 139 = 7 := by decide +kernel
theorem ab139 : am_ab 139 = 0 := by decide +kernel
theorem np139 : 4 = am_np 139 + (if am_sc 139 then 0 else 1) := by decide +kernel
theorem q140c0 (i : Nat) {pc : Nat} {e : am_E} (hi : am_t140_0[i]? = some (pc, e)) : am_look 140 pc = some e := lk_of (l := am_t140) rfl (fun _ q => List.mem_append.mpr (.inl q)) hi
theorem q140c1 (i : Nat) {pc : Nat} {e : am_E} (hi : am_t140_1[i]? = some (pc, e)) : am_look 140 pc = some e := lk_of (l := am_t140) rfl (fun _ q => List.mem_append.mpr (.inr (q))) hi
theorem zb140 : am_zb 140 = false := by decide +kernel
theorem ml140 : am_ml 140 = 5 := by decide +kernel
theorem ab140 : am_ab 140 = 0 := by decide +kernel
theorem np140 : 3 = am_np 140 + (if am_sc 140 then 0 else 1) := by decide +kernel
theorem q141c0 (i : Nat) {pc : Nat} {e : am_E} (hi : am_t141_0[i]? = some (pc, e)) : am_look 141 pc = some e := lk_of (l := am_t141) rfl (fun _ q => List.mem_append.mpr (.inl q)) hi
theorem q141c1 (i : Nat) {pc : Nat} {e : am_E} (hi : am_t141_1[i]? = some (pc, e)) : am_look 141 pc = some e := lk_of (l := am_t141) rfl (fun _ q => List.mem_append.mpr (.inr (q))) hi
theorem zb141 : am_zb 141 = false := by decide +kernel
theorem ml141 : am_ml 141 = 7 := by decide +kernel
theorem ab141 : am_ab 141 = 0 := by decide +kernel
theorem np141 : 5 = am_np 141 + (if am_sc 141 then 0 else 1) := by decide +kernel
theorem q142c0 (i : Nat) {pc : Nat} {e : am_E} (hi : am_t142[i]? = some (pc, e)) : am_look 142 pc = some e := lk_of (l := am_t142) rfl (fun _ q => q) hi
theorem zb142 : am_zb 142 = false := by decide +kernel
theorem ml142 : am_ml 142 = 2 := by decide +kernel
theorem ab142 : am_ab 142 = 0 := by decide +kernel
theorem np142 : 1 = am_np 142 + (if am_sc 142 then 0 else 1) := by decide +kernel
theorem q143c0 (i : Nat) {pc : Nat} {e : am_E} (hi : am_t143[i]? = some (pc, e)) : am_look 143 pc = some e := lk_of (l := am_t143) rfl (fun _ q => q) hi
theorem zb143 : am_zb 143 = false := by decide +kernel
theorem ml143 : am_ml 143 = 4 := by decide +kernel
theorem ab143 : am_ab 143 = 0 := by decide +kernel
theorem np143 : 3 = am_np 143 + (if am_sc 143 then 0 else 1) := by decide +kernel
theorem q144c0 (i : Nat) {pc : Nat} {e : am_E} (hi : am_t144[i]? = some (pc, e)) : am_look 144 pc = some e := lk_of (l := am_t144) rfl (fun _ q => q) hi
theorem zb144 : am_zb 144 = false := by decide +kernel
theorem ml144 : am_ml 144 = 4 := by decide +kernel
theorem ab144 : am_ab 144 = 0 := by decide +kernel
theorem np144 : 3 = am_np 144 + (if am_sc 144 then 0 else 1) := by decide +kernel
theorem q145c0 (i : Nat) {pc : Nat} {e : am_E} (hi : am_t145[i]? = some (pc, e)) : am_look 145 pc = some e := lk_of (l := am_t145) rfl (fun _ q => q) hi
theorem zb145 : am_zb 145 = false := by decide +kernel
theorem ml145 : am_ml 145 = 4 := by decide +kernel
theorem ab145 : am_ab 145 = 0 := by decide +kernel
theorem np145 : 2 = am_np 145 + (if am_sc 145 then 0 else 1) := by decide +kernel
theorem q146c0 (i : Nat) {pc : Nat} {e : am_E} (hi : am_t146[i]? = some (pc, e)) : am_look 146 pc = some e := lk_of (l := am_t146) rfl (fun _ q => q) hi
theorem zb146 : am_zb 146 = false := by decide +kernel
theorem ml146 : am_ml 146 = 4 := by decide +kernel
theorem ab146 : am_ab 146 = 0 := by decide +kernel
theorem np146 : 2 = am_np 146 + (if am_sc 146 then 0 else 1) := by decide +kernel
theorem q147c0 (i : Nat) {pc : Nat} {e : am_E} (hi : am_t147[i]? = some (pc, e)) : am_look 147 pc = some e := lk_of (l := am_t147) rfl (fun _ q => q) hi
theorem zb147 : am_zb 147 = false := by decide +kernel
theorem ml147 : am_ml 147 = 4 := by decide +kernel
theorem ab147 : am_ab 147 = 0 := by decide +kernel
theorem np147 : 4 = am_np 147 + (if am_sc 147 then 0 else 1) := by decide +kernel
theorem q148c0 (i : Nat) {pc : Nat} {e : am_E} (hi : am_t148[i]? = some (pc, e)) : am_look 148 pc = some e := lk_of (l := am_t148) rfl (fun _ q => q) hi
theorem zb148 : am_zb 148 = false := by decide +kernel
theorem ml148 : am_ml 148 = 6 := by decide +kernel
theorem ab148 : am_ab 148 = 0 := by decide +kernel
theorem np148 : 3 = am_np 148 + (if am_sc 148 then 0 else 1) := by decide +kernel
theorem q149c0 (i : Nat) {pc : Nat} {e : am_E} (hi : am_t149[i]? = some (pc, e)) : am_look 149 pc = some e := lk_of (l := am_t149) rfl (fun _ q => q) hi
theorem zb149 : am_zb 149 = false := by decide +kernel
theorem ml149 : am_ml 149 = 4 := by decide +kernel
theorem ab149 : am_ab 149 = 0 := by decide +kernel
theorem np149 : 1 = am_np 149 + (if am_sc 149 then 0 else 1) := by decide +kernel
theorem q150c0 (i : Nat) {pc : Nat} {e : am_E} (hi : am_t150_0[i]? = some (pc, e)) : am_look 150 pc = some e := lk_of (l := am_t150) rfl (fun _ q => List.mem_append.mpr (.inl q)) hi
theorem q150c1 (i : Nat) {pc : Nat} {e : am_E} (hi : am_t150_1[i]? = some (pc, e)) : am_look 150 pc = some e := lk_of (l := am_t150) rfl (fun _ q => List.mem_append.mpr (.inr (q))) hi
theorem zb150 : am_zb 150 = false := by decide +kernel
theorem ml150 : am_ml 150 = 6 := by decide +kernel
theorem ab150 : am_ab 150 = 0 := by decide +kernel
theorem np150 : 2 = am_np 150 + (if am_sc 150 then 0 else 1) := by decide +kernel
theorem q151c0 (i : Nat) {pc : Nat} {e : am_E} (hi : am_t151[i]? = some (pc, e)) : am_look 151 pc = some e := lk_of (l := am_t151) rfl (fun _ q => q) hi
theorem zb151 : am_zb 151 = false := by decide +kernel
theorem ml151 : am_ml 151 = 4 := by decide +kernel
theorem ab151 : am_ab 151 = 0 := by decide +kernel
theorem np151 : 3 = am_np 151 + (if am_sc 151 then 0 else 1) := by decide +kernel
theorem q152c0 (i : Nat) {pc : Nat} {e : am_E} (hi : am_t152[i]? = some (pc, e)) : am_look 152 pc = some e := lk_of (l := am_t152) rfl (fun _ q => q) hi
theorem zb152 : am_zb 152 = false := by decide +kernel
theorem ml152 : am_ml 152 = 4 := by decide +kernel
theorem ab152 : am_ab 152 = 0 := by decide +kernel
theorem np152 : 3 = am_np 152 + (if am_sc 152 then 0 else 1) := by decide +kernel
theorem q153c0 (i : Nat) {pc : Nat} {e : am_E} (hi : am_t153[i]? = some (pc, e)) : am_look 153 pc = some e := lk_of (l := am_t153) rfl (fun _ q => q) hi
theorem zb153 : am_zb 153 = false := by decide +kernel
theorem ml153 : am_ml 153 = 4 := by decide +kernel
theorem ab153 : am_ab 153 = 0 := by decide +kernel
theorem np153 : 1 = am_np 153 + (if am_sc 153 then 0 else 1) := by decide +kernel
theorem q154c0 (i : Nat) {pc : Nat} {e : am_E} (hi : am_t154[i]? = some (pc, e)) : am_look 154 pc = some e := lk_of (l := am_t154) rfl (fun _ q => q) hi
theorem zb154 : am_zb 154 = false := by decide +kernel
theorem ml154 : am_ml 154 = 3 := by decide +kernel
theorem ab154 : am_ab 154 = 0 := by decide +kernel
theorem np154 : 3 = am_np 154 + (if am_sc 154 then 0 else 1) := by decide +kernel
theorem q155c0 (i : Nat) {pc : Nat} {e : am_E} (hi : am_t155[i]? = some (pc, e)) : am_look 155 pc = some e := lk_of (l := am_t155) rfl (fun _ q => q) hi
theorem zb155 : am_zb 155 = false := by decide +kernel
theorem ml155 : am_ml 155 = 5 := by decide +kernel
theorem ab155 : am_ab 155 = 0 := by decide +kernel
theorem np155 : 4 = am_np 155 + (if am_sc 155 then 0 else 1) := by decide +kernel
theorem q156c0 (i : Nat) {pc : Nat} {e : am_E} (hi : am_t156[i]? = some (pc, e)) : am_look 156 pc = some e := lk_of (l := am_t156) rfl (fun _ q => q) hi
theorem zb156 : am_zb 156 = false := by decide +kernel
theorem ml156 : am_ml 156 = 3 := by decide +kernel
theorem ab156 : am_ab 156 = 0 := by decide +kernel
theorem np156 : 2 = am_np 156 + (if am_sc 156 then 0 else 1) := by decide +kernel
theorem q157c0 (i : Nat) {pc : Nat} {e : am_E} (hi : am_t157[i]? = some (pc, e)) : am_look 157 pc = some e := lk_of (l := am_t157) rfl (fun _ q => q) hi
theorem zb157 : am_zb 157 = false := by decide +kernel
theorem ml157 : am_ml 157 = 4 := by decide +kernel
theorem ab157 : am_ab 157 = 0 := by decide +kernel
theorem np157 : 4 = am_np 157 + (if am_sc 157 then 0 else 1) := by decide +kernel
theorem q158c0 (i : Nat) {pc : Nat} {e : am_E} (hi : am_t158[i]? = some (pc, e)) : am_look 158 pc = some e := lk_of (l := am_t158) rfl (fun _ q => q) hi
theorem zb158 : am_zb 158 = false := by decide +kernel
theorem ml158 : am_ml 158 = 4 := by decide +kernel
theorem ab158 : am_ab 158 = 0 := by decide +kernel
theorem np158 : 4 = am_np 158 + (if am_sc 158 then 0 else 1) := by decide +kernel
theorem q159c0 (i : Nat) {pc : Nat} {e : am_E} (hi : am_t159[i]? = some (pc, e)) : am_look 159 pc = some e := lk_of (l := am_t159) rfl (fun _ q => q) hi
theorem zb159 : am_zb 159 = false := by decide +kernel
theorem ml159 : am_ml 159 = 2 := by decide +kernel
theorem ab159 : am_ab 159 = 0 := by decide +kernel
theorem np159 : 2 = am_np 159 + (if am_sc 159 then 0 else 1) := by decide +kernel
theorem q160c0 (i : Nat) {pc : Nat} {e : am_E} (hi : am_t160_0[i]? = some (pc, e)) : am_look 160 pc = some e := lk_of (l := am_t160) rfl (fun _ q => List.mem_append.mpr (.inl q)) hi
theorem q160c1 (i : Nat) {pc : Nat} {e : am_E} (hi : am_t160_1[i]? = some (pc, e)) : am_look 160 pc = some e := lk_of (l := am_t160) rfl (fun _ q => List.mem_append.mpr (.inr (q))) hi
theorem zb160 : am_zb 160 = false := by decide +kernel
theorem ml160 : am_ml 160 = 4 := by decide +kernel
theorem ab160 : am_ab 160 = 0 := by decide +kernel
theorem np160 : 1 = am_np 160 + (if am_sc 160 then 0 else 1) := by decide +kernel
theorem q161c0 (i : Nat) {pc : Nat} {e : am_E} (hi : am_t161[i]? = some (pc, e)) : am_look 161 pc = some e := lk_of (l := am_t161) rfl (fun _ q => q) hi
theorem zb161 : am_zb 161 = false := by decide +kernel
theorem ml161 : am_ml 161 = 5 := by decide +kernel
theorem ab161 : am_ab 161 = 0 := by decide +kernel
theorem np161 : 4 = am_np 161 + (if am_sc 161 then 0 else 1) := by decide +kernel
theorem q162c0 (i : Nat) {pc : Nat} {e : am_E} (hi : am_t162[i]? = some (pc, e)) : am_look 162 pc = some e := lk_of (l := am_t162) rfl (fun _ q => q) hi
theorem zb162 : am_zb 162 = false := by decide +kernel
theorem ml162 : am_ml 162 = 3 := by decide +kernel
theorem ab162 : am_ab 162 = 0 := by decide +kernel
theorem np162 : 3 = am_np 162 + (if am_sc 162 then 0 else 1) := by decide +kernel
theorem q163c0 (i : Nat) {pc : Nat} {e : am_E} (hi : am_t163_0[i]? = some (pc, e)) : am_look 163 pc = some e := lk_of (l := am_t163) rfl (fun _ q => List.mem_append.mpr (.inl q)) hi
theorem q163c1 (i : Nat) {pc : Nat} {e : am_E} (hi : am_t163_1[i]? = some (pc, e)) : am_look 163 pc = some e := lk_of (l := am_t163) rfl (fun _ q => List.mem_append.mpr (.inr (q))) hi
theorem zb163 : am_zb 163 = false := by decide +kernel
theorem ml163 : am_ml 163 = 5 := by decide +kernel
theorem ab163 : am_ab 163 = 0 := by decide +kernel
theorem np163 : 4 = am_np 163 + (if am_sc 163 then 0 else 1) := by decide +kernel
theorem q164c0 (i : Nat) {pc : Nat} {e : am_E} (hi : am_t164[i]? = some (pc, e)) : am_look 164 pc = some e := lk_of (l := am_t164) rfl (fun _ q => q) hi
theorem zb164 : am_zb 164 = false := by decide +kernel
theorem ml164 : am_ml 164 = 3 := by decide +kernel
theorem ab164 : am_ab 164 = 0 := by decide +kernel
theorem np164 : 3 = am_np 164 + (if am_sc 164 then 0 else 1) := by decide +kernel
theorem q165c0 (i : Nat) {pc : Nat} {e : am_E} (hi : am_t165[i]? = some (pc, e)) : am_look 165 pc = some e := lk_of (l := am_t165) rfl (fun _ q => q) hi
theorem zb165 : am_zb 165 = false := by decide +kernel
theorem ml165 : am_ml 165 = 3 := by decide +kernel
theorem ab165 : am_ab 165 = 0 := by decide +kernel
theorem np165 : 3 = am_np 165 + (if am_sc 165 then 0 else 1) := by decide +kernel
theorem q166c0 (i : Nat) {pc : Nat} {e : am_E} (hi : am_t166_0[i]? = some (pc, e)) : am_look 166 pc = some e := lk_of (l := am_t166) rfl (fun _ q => List.mem_append.mpr (.inl q)) hi
theorem q166c1 (i : Nat) {pc : Nat} {e : am_E} (hi : am_t166_1[i]? = some (pc, e)) : am_look 166 pc = some e := lk_of (l := am_t166) rfl (fun _ q => List.mem_append.mpr (.inr (q))) hi
theorem zb166 : am_zb 166 = false := by decide +kernel
theorem ml166 : am_ml 166 = 6 := by decide +kernel
theorem ab166 : am_ab 166 = 0 := by decide +kernel
theorem np166 : 4 = am_np 166 + (if am_sc 166 then 0 else 1) := by decide +kernel
theorem q167c0 (i : Nat) {pc : Nat} {e : am_E} (hi : am_t167_0[i]? = some (pc, e)) : am_look 167 pc = some e := lk_of (l := am_t167) rfl (fun _ q => List.mem_append.mpr (.inl q)) hi
theorem q167c1 (i : Nat) {pc : Nat} {e : am_E} (hi : am_t167_1[i]? = some (pc, e)) : am_look 167 pc = some e := lk_of (l := am_t167) rfl (fun _ q => List.mem_append.mpr (.inr (List.mem_append.mpr (.inl q)))) hi
theorem q167c2 (i : Nat) {pc : Nat} {e : am_E} (hi : am_t167_2[i]? = some (pc, e)) : am_look 167 pc = some e := lk_of (l := am_t167) rfl (fun _ q => List.mem_append.mpr (.inr (List.mem_append.mpr (.inr (q))))) hi
theorem zb167 : am_zb 167 = false := by decide +kernel
theorem ml167 : am_ml 167 = 7 := by decide +kernel
theorem ab167 : am_ab 167 = 0 := by decide +kernel
theorem np167 : 2 = am_np 167 + (if am_sc 167 then 0 else 1) := by decide +kernel
theorem q168c0 (i : Nat) {pc : Nat} {e : am_E} (hi : am_t168_0[i]? = some (pc, e)) : am_look 168 pc = some e := lk_of (l := am_t168) rfl (fun _ q => List.mem_append.mpr (.inl q)) hi
theorem q168c1 (i : Nat) {pc : Nat} {e : am_E} (hi : am_t168_1[i]? = some (pc, e)) : am_look 168 pc = some e := lk_of (l := am_t168) rfl (fun _ q => List.mem_append.mpr (.inr (List.mem_append.mpr (.inl q)))) hi
theorem q168c2 (i : Nat) {pc : Nat} {e : am_E} (hi : am_t168_2[i]? = some (pc, e)) : am_look 168 pc = some e := lk_of (l := am_t168) rfl (fun _ q => List.mem_append.mpr (.inr (List.mem_append.mpr (.inr (q))))) hi
theorem zb168 : am_zb 168 = true := by decide +kernel
theorem ml168 : am_ml 168 = 3 := by decide +kernel
theorem ab168 : am_ab 168 = 0 := by decide +kernel
theorem np168 : 2 = am_np 168 + (if am_sc 168 then 0 else 1) := by decide +kernel
theorem q169c0 (i : Nat) {pc : Nat} {e : am_E} (hi : am_t169_0[i]? = some (pc, e)) : am_look 169 pc = some e := lk_of (l := am_t169) rfl (fun _ q => List.mem_append.mpr (.inl q)) hi
theorem q169c1 (i : Nat) {pc : Nat} {e : am_E} (hi : am_t169_1[i]? = some (pc, e)) : am_look 169 pc = some e := lk_of (l := am_t169) rfl (fun _ q => List.mem_append.mpr (.inr (List.mem_append.mpr (.inl q)))) hi
theorem q169c2 (i : Nat) {pc : Nat} {e : am_E} (hi : am_t169_2[i]? = some (pc, e)) : am_look 169 pc = some e := lk_of (l := am_t169) rfl (fun _ q => List.mem_append.mpr (.inr (List.mem_append.mpr (.inr (q))))) hi
theorem zb169 : am_zb 169 = false := by decide +kernel
theorem ml169 : am_ml 169 = 8 := by decide +kernel
theorem ab169 : am_ab 169 = 0 := by decide +kernel
theorem np169 : 3 = am_np 169 + (if am_sc 169 then 0 else 1) := by decide +kernel
theorem q170c0 (i : Nat) {pc : Nat} {e : am_E} (hi : am_t170_0[i]? = some (pc, e)) : am_look 170 pc = some e := lk_of (l := am_t170) rfl (fun _ q => List.mem_append.mpr (.inl q)) hi
theorem q170c1 (i : Nat) {pc : Nat} {e : am_E} (hi : am_t170_1[i]? = some (pc, e)) : am_look 170 pc = some e := lk_of (l := am_t170) rfl (fun _ q => List.mem_append.mpr (.inr (List.mem_append.mpr (.inl q)))) hi
theorem q170c2 (i : Nat) {pc : Nat} {e : am_E} (hi : am_t170_2[i]? = some (pc, e)) : am_look 170 pc = some e := lk_of (l := am_t170) rfl (fun _ q => List.mem_append.mpr (.inr (List.mem_append.mpr (.inr (q))))) hi
theorem zb170 : am_zb 170 = false := by decide +kernel
theorem ml170 : am_ml 170 = 6 := by decide +kernel
theorem ab170 : am_ab 170 = 0 := by decide +kernel
theorem np170 : 4 = am_np 170 + (if am_sc 170 then 0 else 1) := by decide +kernel
theorem q171c0 (i : Nat) {pc : Nat} {e : am_E} (hi : am_t171[i]? = some (pc, e)) : am_look 171 pc = some e := lk_of (l := am_t171) rfl (fun _ q => q) hi
theorem zb171 : am_zb 171 = false := by decide +kernel
theorem ml171 : am_ml 171 = 5 := by decide +kernel
theorem ab171 : am_ab 171 = 0 := by decide +kernel
theorem np171 : 3 = am_np 171 + (if am_sc 171 then 0 else 1) := by decide +kernel
theorem q172c0 (i : Nat) {pc : Nat} {e : am_E} (hi : am_t172_0[i]? = some (pc, e)) : am_look 172 pc = some e := lk_of (l := am_t172) rfl (fun _ q => List.mem_append.mpr (.inl q)) hi
theorem q172c1 (i : Nat) {pc : Nat} {e : am_E} (hi : am_t172_1[i]? = some (pc, e)) : am_look 172 pc = some e := lk_of (l := am_t172) rfl (fun _ q => List.mem_append.mpr (.inr (q))) hi
theorem zb172 : am_zb 172 = false := by decide +kernel
theorem ml172 : am_ml 172 = 5 := by decide +kernel
theorem ab172 : am_ab 172 = 0 := by decide +kernel
theorem np172 : 4 = am_np 172 + (if am_sc 172 then 0 else 1) := by decide +kernel
theorem q173c0 (i : Nat) {pc : Nat} {e : am_E} (hi : am_t173[i]? = some (pc, e)) : am_look 173 pc = some e := lk_of (l := am_t173) rfl (fun _ q => q) hi
theorem zb173 : am_zb 173 = false := by decide +kernel
theorem ml173 : am_ml 173 = 4 := by decide +kernel
theorem ab173 : am_ab 173 = 0 := by decide +kernel
theorem np173 : 4 = am_np 173 + (if am_sc 173 then 0 else 1) := by decide +kernel
theorem q174c0 (i : Nat) {pc : Nat} {e : am_E} (hi : am_t174_0[i]? = some (pc, e)) : am_look 174 pc = some e := lk_of (l := am_t174) rfl (fun _ q => List.mem_append.mpr (.inl q)) hi
theorem q174c1 (i : Nat) {pc : Nat} {e : am_E} (hi : am_t174_1[i]? = some (pc, e)) : am_look 174 pc = some e := lk_of (l := am_t174) rfl (fun _ q => List.mem_append.mpr (.inr (q))) hi
theorem zb174 : am_zb 174 = false := by decide +kernel
theorem ml174 : am_ml 174 = 7 := by decide +kernel
theorem ab174 : am_ab 174 = 0 := by decide +kernel
theorem np174 : 6 = am_np 174 + (if am_sc 174 then 0 else 1) := by decide +kernel
theorem q175c0 (i : Nat) {pc : Nat} {e : am_E} (hi : am_t175[i]? = some (pc, e)) : am_look 175 pc = some e := lk_of (l := am_t175) rfl (fun _ q => q) hi
theorem zb175 : am_zb 175 = false := by decide +kernel
theorem ml175 : am_ml 175 = 7 := by decide +kernel
theorem ab175 : am_ab 175 = 0 := by decide +kernel
theorem np175 : 5 = am_np 175 + (if am_sc 175 then 0 else 1) := by decide +kernel
theorem q176c0 (i : Nat) {pc : Nat} {e : am_E} (hi : am_t176[i]? = some (pc, e)) : am_look 176 pc = some e := lk_of (l := am_t176) rfl (fun _ q => q) hi
theorem zb176 : am_zb 176 = false := by decide +kernel
theorem ml176 : am_ml 176 = 4 := by decide +kernel
theorem ab176 : am_ab 176 = 0 := by decide +kernel
theorem np176 : 3 = am_np 176 + (if am_sc 176 then 0 else 1) := by decide +kernel
theorem q177c0 (i : Nat) {pc : Nat} {e : am_E} (hi : am_t177[i]? = some (pc, e)) : am_look 177 pc = some e := lk_of (l := am_t177) rfl (fun _ q => q) hi
theorem zb177 : am_zb 177 = false := by decide +kernel
theorem ml177 : am_ml 177 = 7 := by decide +kernel
theorem ab177 : am_ab 177 = 0 := by decide +kernel
theorem np177 : 3 = am_np 177 + (if am_sc 177 then 0 else 1) := by decide +kernel
theorem q178c0 (i : Nat) {pc : Nat} {e : am_E} (hi : am_t178[i]? = some (pc, e)) : am_look 178 pc = some e := lk_of (l := am_t178) rfl (fun _ q => q) hi
theorem zb178 : am_zb 178 = false := by decide +kernel
theorem ml178 : am_ml 178 = 1 := by decide +kernel
theorem ab178 : am_ab 178 = 0 := by decide +kernel
theorem np178 : 1 = am_np 178 + (if am_sc 178 then 0 else 1) := by decide +kernel
theorem q179c0 (i : Nat) {pc : Nat} {e : am_E} (hi : am_t179[i]? = some (pc, e)) : am_look 179 pc = some e := lk_of (l := am_t179) rfl (fun _ q => q) hi
theorem zb179 : am_zb 179 = false := by decide +kernel
theorem ml179 : am_ml 179 = 3 := by decide +kernel
theorem ab179 : am_ab 179 = 0 := by decide +kernel
theorem np179 : 1 = am_np 179 + (if am_sc 179 then 0 else 1) := by decide +kernel
theorem q180c0 (i : Nat) {pc : Nat} {e : am_E} (hi : am_t180[i]? = some (pc, e)) : am_look 180 pc = some e := lk_of (l := am_t180) rfl (fun _ q => q) hi
theorem zb180 : am_zb 180 = false := by decide +kernel
theorem ml180 : am_ml 180 = 5 := by decide +kernel
theorem ab180 : am_ab 180 = 0 := by decide +kernel
theorem np180 : 2 = am_np 180 + (if am_sc 180 then 0 else 1) := by decide +kernel
theorem q181c0 (i : Nat) {pc : Nat} {e : am_E} (hi : am_t181[i]? = some (pc, e)) : am_look 181 pc = some e := lk_of (l := am_t181) rfl (fun _ q => q) hi
theorem zb181 : am_zb 181 = false := by decide +kernel
theorem ml181 : am_ml 181 = 2 := by decide +kernel
theorem ab181 : am_ab 181 = 0 := by decide +kernel
theorem np181 : 1 = am_np 181 + (if am_sc 181 then 0 else 1) := by decide +kernel
theorem q182c0 (i : Nat) {pc : Nat} {e : am_E} (hi : am_t182[i]? = some (pc, e)) : am_look 182 pc = some e := lk_of (l := am_t182) rfl (fun _ q => q) hi
theorem zb182 : am_zb 182 = false := by decide +kernel
theorem ml182 : am_ml 182 = 3 := by decide +kernel
theorem ab182 : am_ab 182 = 0 := by decide +kernel
theorem np182 : 2 = am_np 182 + (if am_sc 182 then 0 else 1) := by decide +kernel
theorem q183c0 (i : Nat) {pc : Nat} {e : am_E} (hi : am_t183[i]? = some (pc, e)) : am_look 183 pc = some e := lk_of (l := am_t183) rfl (fun _ q => q) hi
theorem zb183 : am_zb 183 = false := by decide +kernel
theorem ml183 : am_ml 183 = 4 := by decide +kernel
theorem ab183 : am_ab 183 = 0 := by decide +kernel
theorem np183 : 3 = am_np 183 + (if am_sc 183 then 0 else 1) := by decide +kernel
theorem q184c0 (i : Nat) {pc : Nat} {e : am_E} (hi : am_t184[i]? = some (pc, e)) : am_look 184 pc = some e := lk_of (l := am_t184) rfl (fun _ q => q) hi
theorem zb184 : am_zb 184 = false := by decide +kernel
theorem ml184 : am_ml 184 = 3 := by decide +kernel
theorem ab184 : am_ab 184 = 0 := by decide +kernel
theorem np184 : 3 = am_np 184 + (if am_sc 184 then 0 else 1) := by decide +kernel
theorem q185c0 (i : Nat) {pc : Nat} {e : am_E} (hi : am_t185[i]? = some (pc, e)) : am_look 185 pc = some e := lk_of (l := am_t185) rfl (fun _ q => q) hi
theorem zb185 : am_zb 185 = false := by decide +kernel
theorem ml185 : am_ml 185 = 5 := by decide +kernel
theorem ab185 : am_ab 185 = 0 := by decide +kernel
theorem np185 : 4 = am_np 185 + (if am_sc 185 then 0 else 1) := by decide +kernel
theorem q186c0 (i : Nat) {pc : Nat} {e : am_E} (hi : am_t186[i]? = some (pc, e)) : am_look 186 pc = some e := lk_of (l := am_t186) rfl (fun _ q => q) hi
theorem zb186 : am_zb 186 = false := by decide +kernel
theorem ml186 : am_ml 186 = 5 := by decide +kernel
theorem ab186 : am_ab 186 = 0 := by decide +kernel
theorem np186 : 5 = am_np 186 + (if am_sc 186 then 0 else 1) := by decide +kernel
theorem q187c0 (i : Nat) {pc : Nat} {e : am_E} (hi : am_t187[i]? = some (pc, e)) : am_look 187 pc = some e := lk_of (l := am_t187) rfl (fun _ q => q) hi
theorem zb187 : am_zb 187 = false := by decide +kernel
theorem ml187 : am_ml 187 = 5 := by decide +kernel
theorem ab187 : am_ab 187 = 0 := by decide +kernel
theorem np187 : 4 = am_np 187 + (if am_sc 187 then 0 else 1) := by decide +kernel
theorem q188c0 (i : Nat) {pc : Nat} {e : am_E} (hi : am_t188[i]? = some (pc, e)) : am_look 188 pc = some e := lk_of (l := am_t188) rfl (fun _ q => q) hi
theorem zb188 : am_zb 188 = false := by decide +kernel
theorem ml188 : am_ml 188 = 4 := by decide +kernel
theorem ab188 : am_ab 188 = 0 := by decide +kernel
theorem np188 : 4 = am_np 188 + (if am_sc 188 then 0 else 1) := by decide +kernel
theorem q189c0 (i : Nat) {pc : Nat} {e : am_E} (hi : am_t189[i]? = some (pc, e)) : am_look 189 pc = some e := lk_of (l := am_t189) rfl (fun _ q => q) hi
theorem zb189 : am_zb 189 = false := by decide +kernel
theorem ml189 : am_ml 189 = 4 := by decide +kernel
theorem ab189 : am_ab 189 = 0 := by decide +kernel
theorem np189 : 2 = am_np 189 + (if am_sc 189 then 0 else 1) := by decide +kernel
theorem q190c0 (i : Nat) {pc : Nat} {e : am_E} (hi : am_t190[i]? = some (pc, e)) : am_look 190 pc = some e := lk_of (l := am_t190) rfl (fun _ q => q) hi
theorem zb190 : am_zb 190 = false := by decide +kernel
theorem ml190 : am_ml 190 = 5 := by decide +kernel
theorem ab190 : am_ab 190 = 0 := by decide +kernel
theorem np190 : 4 = am_np 190 + (if am_sc 190 then 0 else 1) := by decide +kernel
theorem q191c0 (i : Nat) {pc : Nat} {e : am_E} (hi : am_t191[i]? = some (pc, e)) : am_look 191 pc = some e := lk_of (l := am_t191) rfl (fun _ q => q) hi
theorem zb191 : am_zb 191 = false := by decide +kernel
theorem ml191 : am_ml 191 = 5 := by decide +kernel
theorem ab191 : am_ab 191 = 0 := by decide +kernel
theorem np191 : 5 = am_np 191 + (if am_sc 191 then 0 else 1) := by decide +kernel
theorem q192c0 (i : Nat) {pc : Nat} {e : am_E} (hi : am_t192_0[i]? = some (pc, e)) : am_look 192 pc = some e := lk_of (l := am_t192) rfl (fun _ q => List.mem_append.mpr (.inl q)) hi
theorem q192c1 (i : Nat) {pc : Nat} {e : am_E} (hi : am_t192_1[i]? = some (pc, e)) : am_look 192 pc = some e := lk_of (l := am_t192) rfl (fun _ q => List.mem_append.mpr (.inr (q))) hi
theorem zb192 : am_zb 192 = false := by decide +kernel
theorem ml192 : am_ml 192 = 5 := by decide +kernel
theorem ab192 : am_ab 192 = 0 := by decide +kernel
theorem np192 : 2 = am_np 192 + (if am_sc 192 then 0 else 1) := by decide +kernel
theorem q193c0 (i : Nat) {pc : Nat} {e : am_E} (hi : am_t193[i]? = some (pc, e)) : am_look 193 pc = some e := lk_of (l := am_t193) rfl (fun _ q => q) hi
theorem zb193 : am_zb 193 = false := by decide +kernel
theorem ml193 : am_ml 193 = 4 := by decide +kernel
theorem ab193 : am_ab 193 = 0 := by decide +kernel
theorem np193 : 4 = am_np 193 + (if am_sc 193 then 0 else 1) := by decide +kernel
theorem q194c0 (i : Nat) {pc : Nat} {e : am_E} (hi : am_t194[i]? = some (pc, e)) : am_look 194 pc = some e := lk_of (l := am_t194) rfl (fun _ q => q) hi
theorem zb194 : am_zb 194 = false := by decide +kernel
theorem ml194 : am_ml 194 = 6 := by decide +kernel
theorem ab194 : am_ab 194 = 0 := by decide +kernel
theorem np194 : 4 = am_np 194 + (if am_sc 194 then 0 else 1) := by decide +kernel
theorem q195c0 (i : Nat) {pc : Nat} {e : am_E} (hi : am_t195[i]? = some (pc, e)) : am_look 195 pc = some e := lk_of (l := am_t195) rfl (fun _ q => q) hi
theorem zb195 : am_zb 195 = false := by decide +kernel
theorem ml195 : am_ml 195 = 6 := by decide +kernel
theorem ab195 : am_ab 195 = 0 := by decide +kernel
theorem np195 : 4 = am_np 195 + (if am_sc 195 then 0 else 1) := by decide +kernel
theorem q196c0 (i : Nat) {pc : Nat} {e : am_E} (hi : am_t196_0[i]? = some (pc, e)) : am_look 196 pc = some e := lk_of (l := am_t196) rfl (fun _ q => List.mem_append.mpr (.inl q)) hi
theorem q196c1 (i : Nat) {pc : Nat} {e : am_E} (hi : am_t196_1[i]? = some (pc, e)) : am_look 196 pc = some e := lk_of (l := am_t196) rfl (fun _ q => List.mem_append.mpr (.inr (q))) hi
theorem zb196 : am_zb 196 = false := by decide +kernel
theorem ml196 : am_ml 196 = 10 := by decide +kernel
theorem ab196 : am_ab 196 = 1 := by decide +kernel
theorem np196 : 5 = am_np 196 + (if am_sc 196 then 0 else 1) := by decide +kernel
theorem q197c0 (i : Nat) {pc : Nat} {e : am_E} (hi : am_t197_0[i]? = some (pc, e)) : am_look 197 pc = some e := lk_of (l := am_t197) rfl (fun _ q => List.mem_append.mpr (.inl q)) hi
theorem q197c1 (i : Nat) {pc : Nat} {e : am_E} (hi : am_t197_1[i]? = some (pc, e)) : am_look 197 pc = some e := lk_of (l := am_t197) rfl (fun _ q => List.mem_append.mpr (.inr (q))) hi
theorem zb197 : am_zb 197 = false := by decide +kernel
theorem ml197 : am_ml 197 = 8 := by decide +kernel
theorem ab197 : am_ab 197 = 0 := by decide +kernel
theorem np197 : 2 = am_np 197 + (if am_sc 197 then 0 else 1) := by decide +kernel
theorem q198c0 (i : Nat) {pc : Nat} {e : am_E} (hi : am_t198_0[i]? = some (pc, e)) : am_look 198 pc = some e := lk_of (l := am_t198) rfl (fun _ q => List.mem_append.mpr (.inl q)) hi
theorem q198c1 (i : Nat) {pc : Nat} {e : am_E} (hi : am_t198_1[i]? = some (pc, e)) : am_look 198 pc = some e := lk_of (l := am_t198) rfl (fun _ q => List.mem_append.mpr (.inr (q))) hi
theorem zb198 : am_zb 198 = false := by decide +kernel
theorem ml198 : am_ml 198 = 7 := by decide +kernel
theorem ab198 : am_ab 198 = 0 := by decide +kernel
theorem np198 : 2 = am_np 198 + (if am_sc 198 then 0 else 1) := by decide +kernel
theorem q199c0 (i : Nat) {pc : Nat} {e : am_E} (hi : am_t199_0[i]? = some (pc, e)) : am_look 199 pc = some e := lk_of (l := am_t199) rfl (fun _ q => List.mem_append.mpr (.inl q)) hi
theorem q199c1 (i : Nat) {pc : Nat} {e : am_E} (hi : am_t199_1[i]? = some (pc, e)) : am_look 199 pc = some e := lk_of (l := am_t199) rfl (fun _ q => List.mem_append.mpr (.inr (q))) hi
theorem zb199 : am_zb 199 = false := by decide +kernel
theorem ml199 : am_ml 199 = 9 := by decide +kernel
theorem ab199 : am_ab 199 = 0 := by decide +kernel
theorem np199 : 3 = am_np 199 + (if am_sc 199 then 0 else 1) := by decide +kernel
theorem q200c0 (i : Nat) {pc : Nat} {e : am_E} (hi : am_t200[i]? = some (pc, e)) : am_look 200 pc = some e := lk_of (l := am_t200) rfl (fun _ q => q) hi
theorem zb200 : am_zb 200 = false := by decide +kernel
theorem ml200 : am_ml 200 = 3 := by decide +kernel
theorem ab200 : am_ab 200 = 0 := by decide +kernel
theorem np200 : 3 = am_np 200 + (if am_sc 200 then 0 else 1) := by decide +kernel
theorem q201c0 (i : Nat) {pc : Nat} {e : am_E} (hi : am_t201[i]? = some (pc, e)) : am_look 201 pc = some e := lk_of (l := am_t201) rfl (fun _ q => q) hi
theorem zb201 : am_zb 201 = false := by decide +kernel
theorem ml201 : am_ml 201 = 5 := by decide +kernel
theorem ab201 : am_ab 201 = 0 := by decide +kernel
theorem np201 : 2 = am_np 201 + (if am_sc 201 then 0 else 1) := by decide +kernel
theorem q202c0 (i : Nat) {pc : Nat} {e : am_E} (hi : am_t202[i]? = some (pc, e)) : am_look 202 pc = some e := lk_of (l := am_t202) rfl (fun _ q => q) hi
theorem zb202 : am_zb 202 = false := by decide +kernel
theorem ml202 : am_ml 202 = 7 := by decide +kernel
theorem ab202 : am_ab 202 = 0 := by decide +kernel
theorem np202 : 5 = am_np 202 + (if am_sc 202 then 0 else 1) := by decide +kernel
theorem q203c0 (i : Nat) {pc : Nat} {e : am_E} (hi : am_t203[i]? = some (pc, e)) : am_look 203 pc = some e := lk_of (l := am_t203) rfl (fun _ q => q) hi
theorem zb203 : am_zb 203 = false := by decide +kernel
theorem ml203 : am_ml 203 = 4 := by decide +kernel
theorem ab203 : am_ab 203 = 0 := by decide +kernel
theorem np203 : 4 = am_np 203 + (if am_sc 203 then 0 else 1) := by decide +kernel
theorem q204c0 (i : Nat) {pc : Nat} {e : am_E} (hi : am_t204[i]? = some (pc, e)) : am_look 204 pc = some e := lk_of (l := am_t204) rfl (fun _ q => q) hi
theorem zb204 : am_zb 204 = false := by decide +kernel
theorem ml204 : am_ml 204 = 4 := by decide +kernel
theorem ab204 : am_ab 204 = 0 := by decide +kernel
theorem np204 : 2 = am_np 204 + (if am_sc 204 then 0 else 1) := by decide +kernel
theorem q205c0 (i : Nat) {pc : Nat} {e : am_E} (hi : am_t205[i]? = some (pc, e)) : am_look 205 pc = some e := lk_of (l := am_t205) rfl (fun _ q => q) hi
theorem zb205 : am_zb 205 = true := by decide +kernel
theorem ml205 : am_ml 205 = 4 := by decide +kernel
theorem ab205 : am_ab 205 = 0 := by decide +kernel
theorem np205 : 3 = am_np 205 + (if am_sc 205 then 0 else 1) := by decide +kernel
theorem q206c0 (i : Nat) {pc : Nat} {e : am_E} (hi : am_t206[i]? = some (pc, e)) : am_look 206 pc = some e := lk_of (l := am_t206) rfl (fun _ q => q) hi
theorem zb206 : am_zb 206 = false := by decide +kernel
theorem ml206 : am_ml 206 = 5 := by decide +kernel
theorem ab206 : am_ab 206 = 0 := by decide +kernel
theorem np206 : 2 = am_np 206 + (if am_sc 206 then 0 else 1) := by decide +kernel
theorem q207c0 (i : Nat) {pc : Nat} {e : am_E} (hi : am_t207_0[i]? = some (pc, e)) : am_look 207 pc = some e := lk_of (l := am_t207) rfl (fun _ q => List.mem_append.mpr (.inl q)) hi
theorem q207c1 (i : Nat) {pc : Nat} {e : am_E} (hi : am_t207_1[i]? = some (pc, e)) : am_look 207 pc = some e := lk_of (l := am_t207) rfl (fun _ q => List.mem_append.mpr (.inr (q))) hi
theorem zb207 : am_zb 207 = false := by decide +kernel
theorem ml207 : am_ml 207 = 5 := by decide +kernel
theorem ab207 : am_ab 207 = 0 := by decide +kernel
theorem np207 : 3 = am_np 207 + (if am_sc 207 then 0 else 1) := by decide +kernel
theorem q208c0 (i : Nat) {pc : Nat} {e : am_E} (hi : am_t208[i]? = some (pc, e)) : am_look 208 pc = some e := lk_of (l := am_t208) rfl (fun _ q => q) hi
theorem zb208 : am_zb 208 = false := by decide +kernel
theorem ml208 : am_ml 208 = 3 := by decide +kernel
theorem ab208 : am_ab 208 = 0 := by decide +kernel
theorem np208 : 3 = am_np 208 + (if am_sc 208 then 0 else 1) := by decide +kernel
theorem q209c0 (i : Nat) {pc : Nat} {e : am_E} (hi : am_t209[i]? = some (pc, e)) : am_look 209 pc = some e := lk_of (l := am_t209) rfl (fun _ q => q) hi
theorem zb209 : am_zb 209 = false := by decide +kernel
theorem ml209 : am_ml 209 = 5 := by decide +kernel
theorem ab209 : am_ab 209 = 0 := by decide +kernel
theorem np209 : 3 = am_np 209 + (if am_sc 209 then 0 else 1) := by decide +kernel
theorem q210c0 (i : Nat) {pc : Nat} {e : am_E} (hi : am_t210[i]? = some (pc, e)) : am_look 210 pc = some e := lk_of (l := am_t210) rfl (fun _ q => q) hi
theorem zb210 : am_zb 210 = false := by decide +kernel
theorem ml210 : am_ml 210 = 2 := by decide +kernel
theorem ab210 : am_ab 210 = 0 := by decide +kernel
theorem np210 : 2 = am_np 210 + (if am_sc 210 then 0 else 1) := by decide +kernel
theorem q211c0 (i : Nat) {pc : Nat} {e : am_E} (hi : am_t211[i]? = some (pc, e)) : am_look 211 pc = some e := lk_of (l := am_t211) rfl (fun _ q => q) hi
theorem zb211 : am_zb 211 = false := by decide +kernel
theorem ml211 : am_ml 211 = 6 := by decide +kernel
theorem ab211 : am_ab 211 = 0 := by decide +kernel
theorem np211 : 4 = am_np 211 + (if am_sc 211 then 0 else 1) := by decide +kernel
theorem q212c0 (i : Nat) {pc : Nat} {e : am_E} (hi : am_t212[i]? = some (pc, e)) : am_look 212 pc = some e := lk_of (l := am_t212) rfl (fun _ q => q) hi
theorem zb212 : am_zb 212 = false := by decide +kernel
theorem ml212 : am_ml 212 = 7 := by decide +kernel
theorem ab212 : am_ab 212 = 0 := by decide +kernel
theorem np212 : 4 = am_np 212 + (if am_sc 212 then 0 else 1) := by decide +kernel
theorem q213c0 (i : Nat) {pc : Nat} {e : am_E} (hi : am_t213[i]? = some (pc, e)) : am_look 213 pc = some e := lk_of (l := am_t213) rfl (fun _ q => q) hi
theorem zb213 : am_zb 213 = false := by decide +kernel
theorem ml213 : am_ml 213 = 3 := by decide +kernel
theorem ab213 : am_ab 213 = 0 := by decide +kernel
theorem np213 : 3 = am_np 213 + (if am_sc 213 then 0 else 1) := by decide +kernel
theorem q214c0 (i : Nat) {pc : Nat} {e : am_E} (hi : am_t214[i]? = some (pc, e)) : am_look 214 pc = some e := lk_of (l := am_t214) rfl (fun _ q => q) hi
theorem zb214 : am_zb 214 = false := by decide +kernel
theorem ml214 : am_ml 214 = 2 := by decide +kernel
theorem ab214 : am_ab 214 = 0 := by decide +kernel
theorem np214 : 2 = am_np 214 + (if am_sc 214 then 0 else 1) := by decide +kernel
theorem q215c0 (i : Nat) {pc : Nat} {e : am_E} (hi : am_t215[i]? = some (pc, e)) : am_look 215 pc = some e := lk_of (l := am_t215) rfl (fun _ q => q) hi
theorem zb215 : am_zb 215 = false := by decide +kernel
theorem ml215 : am_ml 215 = 4 := by decide +kernel
theorem ab215 : am_ab 215 = 0 := by decide +kernel
theorem np215 : 2 = am_np 215 + (if am_sc 215 then 0 else 1) := by decide +kernel
theorem q216c0 (i : Nat) {pc : Nat} {e : am_E} (hi : am_t216_0[i]? = some (pc, e)) : am_look 216 pc = some e := lk_of (l := am_t216) rfl (fun _ q => List.mem_append.mpr (.inl q)) hi
theorem q216c1 (i : Nat) {pc : Nat} {e : am_E} (hi : am_t216_1[i]? = some (pc, e)) : am_look 216 pc = some e := lk_of (l := am_t216) rfl (fun _ q => List.mem_append.mpr (.inr (q))) hi
theorem zb216 : am_zb 216 = false := by decide +kernel
theorem ml216 : am_ml 216 = 5 := by decide +kernel
theorem ab216 : am_ab 216 = 0 := by decide +kernel
theorem np216 : 3 = am_np 216 + (if am_sc 216 then 0 else 1) := by decide +kernel
theorem q217c0 (i : Nat) {pc : Nat} {e : am_E} (hi : am_t217[i]? = some (pc, e)) : am_look 217 pc = some e := lk_of (l := am_t217) rfl (fun _ q => q) hi
theorem zb217 : am_zb 217 = false := by decide +kernel
theorem ml217 : am_ml 217 = 4 := by decide +kernel
theorem ab217 : am_ab 217 = 0 := by decide +kernel
theorem np217 : 4 = am_np 217 + (if am_sc 217 then 0 else 1) := by decide +kernel
theorem q218c0 (i : Nat) {pc : Nat} {e : am_E} (hi : am_t218_0[i]? = some (pc, e)) : am_look 218 pc = some e := lk_of (l := am_t218) rfl (fun _ q => List.mem_append.mpr (.inl q)) hi
theorem q218c1 (i : Nat) {pc : Nat} {e : am_E} (hi : am_t218_1[i]? = some (pc, e)) : am_look 218 pc = some e := lk_of (l := am_t218) rfl (fun _ q => List.mem_append.mpr (.inr (q))) hi
theorem zb218 : am_zb 218 = false := by decide +kernel
theorem ml218 : am_ml 218 = 3 := by decide +kernel
theorem ab218 : am_ab 218 = 0 := by decide +kernel
theorem np218 : 3 = am_np 218 + (if am_sc 218 then 0 else 1) := by decide +kernel
theorem q219c0 (i : Nat) {pc : Nat} {e : am_E} (hi : am_t219_0[i]? = some (pc, e)) : am_look 219 pc = some e := lk_of (l := am_t219) rfl (fun _ q => List.mem_append.mpr (.inl q)) hi
theorem q219c1 (i : Nat) {pc : Nat} {e : am_E} (hi : am_t219_1[i]? = some (pc, e)) : am_look 219 pc = some e := lk_of (l := am_t219) rfl (fun _ q => List.mem_append.mpr (.inr (List.mem_append.mpr (.inl q)))) hi
theorem q219c2 (i : Nat) {pc : Nat} {e : am_E} (hi : am_t219_2[i]? = some (pc, e)) : am_look 219 pc = some e := lk_of (l := am_t219) rfl (fun _ q => List.mem_append.mpr (.inr (List.mem_append.mpr (.inr (q))))) hi
theorem zb219 : am_zb 219 = false := by decide +kernel
theorem ml219 : am_ml 219 = 8 := by decide +kernel
theorem ab219 : am_ab 219 = 0 := by decide +kernel
theorem np219 : 3 = am_np 219 + (if am_sc 219 then 0 else 1) := by decide +kernel
theorem q220c0 (i : Nat) {pc : Nat} {e : am_E} (hi : am_t220[i]? = some (pc, e)) : am_look 220 pc = some e := lk_of (l := am_t220) rfl (fun _ q => q) hi
theorem zb220 : am_zb 220 = false := by decide +kernel
theorem ml220 : am_ml 220 = 3 := by decide +kernel
theorem ab220 : am_ab 220 = 0 := by decide +kernel
theorem np220 : 3 = am_np 220 + (if am_sc 220 then 0 else 1) := by decide +kernel
theorem q221c0 (i : Nat) {pc : Nat} {e : am_E} (hi : am_t221_0[i]? = some (pc, e)) : am_look 221 pc = some e := lk_of (l := am_t221) rfl (fun _ q => List.mem_append.mpr (.inl q)) hi
theorem q221c1 (i : Nat) {pc : Nat} {e : am_E} (hi : am_t221_1[i]? = some (pc, e)) : am_look 221 pc = some e := lk_of (l := am_t221) rfl (fun _ q => List.mem_append.mpr (.inr (q))) hi
theorem zb221 : am_zb 221 = false := by decide +kernel
theorem ml221 : am_ml 221 = 9 := by decide +kernel
theorem ab221 : am_ab 221 = 0 := by decide +kernel
theorem np221 : 5 = am_np 221 + (if am_sc 221 then 0 else 1) := by decide +kernel
theorem q222c0 (i : Nat) {pc : Nat} {e : am_E} (hi : am_t222[i]? = some (pc, e)) : am_look 222 pc = some e := lk_of (l := am_t222) rfl (fun _ q => q) hi
theorem zb222 : am_zb 222 = false := by decide +kernel
theorem ml222 : am_ml 222 = 6 := by decide +kernel
theorem ab222 : am_ab 222 = 0 := by decide +kernel
theorem np222 : 3 = am_np 222 + (if am_sc 222 then 0 else 1) := by decide +kernel
theorem q223c0 (i : Nat) {pc : Nat} {e : am_E} (hi : am_t223[i]? = some (pc, e)) : am_look 223 pc = some e := lk_of (l := am_t223) rfl (fun _ q => q) hi
theorem zb223 : am_zb 223 = false := by decide +kernel
theorem ml223 : am_ml 223 = 5 := by decide +kernel
theorem ab223 : am_ab 223 = 0 := by decide +kernel
theorem np223 : 5 = am_np 223 + (if am_sc 223 then 0 else 1) := by decide +kernel
theorem q224c0 (i : Nat) {pc : Nat} {e : am_E} (hi : am_t224[i]? = some (pc, e)) : am_look 224 pc = some e := lk_of (l := am_t224) rfl (fun _ q => q) hi
theorem zb224 : am_zb 224 = false := by decide +kernel
theorem ml224 : am_ml 224 = 4 := by decide +kernel
theorem ab224 : am_ab 224 = 0 := by decide +kernel
theorem np224 : 4 = am_np 224 + (if am_sc 224 then 0 else 1) := by decide +kernel
theorem q225c0 (i : Nat) {pc : Nat} {e : am_E} (hi : am_t225[i]? = some (pc, e)) : am_look 225 pc = some e := lk_of (l := am_t225) rfl (fun _ q => q) hi
theorem zb225 : am_zb 225 = false := by decide +kernel
theorem ml225 : am_ml 225 = 3 := by decide +kernel
theorem ab225 : am_ab 225 = 0 := by decide +kernel
theorem np225 : 2 = am_np 225 + (if am_sc 225 then 0 else 1) := by decide +kernel
theorem q226c0 (i : Nat) {pc : Nat} {e : am_E} (hi : am_t226[i]? = some (pc, e)) : am_look 226 pc = some e := lk_of (l := am_t226) rfl (fun _ q => q) hi
theorem zb226 : am_zb 226 = false := by decide +kernel
theorem ml226 : am_ml 226 = 6 := by decide +kernel
theorem ab226 : am_ab 226 = 0 := by decide +kernel
theorem np226 : 3 = am_np 226 + (if am_sc 226 then 0 else 1) := by decide +kernel
theorem q227c0 (i : Nat) {pc : Nat} {e : am_E} (hi : am_t227[i]? = some (pc, e)) : am_look 227 pc = some e := lk_of (l := am_t227) rfl (fun _ q => q) hi
theorem zb227 : am_zb 227 = false := by decide +kernel
theorem ml227 : am_ml 227 = 3 := by decide +kernel
theorem ab227 : am_ab 227 = 0 := by decide +kernel
theorem np227 : 2 = am_np 227 + (if am_sc 227 then 0 else 1) := by decide +kernel
theorem q228c0 (i : Nat) {pc : Nat} {e : am_E} (hi : am_t228[i]? = some (pc, e)) : am_look 228 pc = some e := lk_of (l := am_t228) rfl (fun _ q => q) hi
theorem zb228 : am_zb 228 = false := by decide +kernel
theorem ml228 : am_ml 228 = 3 := by decide +kernel
theorem ab228 : am_ab 228 = 0 := by decide +kernel
theorem np228 : 3 = am_np 228 + (if am_sc 228 then 0 else 1) := by decide +kernel
theorem q229c0 (i : Nat) {pc : Nat} {e : am_E} (hi : am_t229[i]? = some (pc, e)) : am_look 229 pc = some e := lk_of (l := am_t229) rfl (fun _ q => q) hi
theorem zb229 : am_zb 229 = false := by decide +kernel
theorem ml229 : am_ml 229 = 3 := by decide +kernel
theorem ab229 : am_ab 229 = 0 := by decide +kernel
theorem np229 : 3 = am_np 229 + (if am_sc 229 then 0 else 1) := by decide +kernel
theorem q230c0 (i : Nat) {pc : Nat} {e : am_E} (hi : am_t230_0[i]? = some (pc, e)) : am_look 230 pc = some e := lk_of (l := am_t230) rfl (fun _ q => List.mem_append.mpr (.inl q)) hi
theorem q230c1 (i : Nat) {pc : Nat} {e : am_E} (hi : am_t230_1[i]? = some (pc, e)) : am_look 230 pc = some e := lk_of (l := am_t230) rfl (fun _ q => List.mem_append.mpr (.inr (q))) hi
theorem zb230 : am_zb 230 = false := by decide +kernel
theorem ml230 : am_ml 230 = 4 := by decide +kernel
theorem ab230 : am_ab 230 = 0 := by decide +kernel
theorem np230 : 4 = am_np 230 + (if am_sc 230 then 0 else 1) := by decide +kernel
theorem q231c0 (i : Nat) {pc : Nat} {e : am_E} (hi : am_t231_0[i]? = some (pc, e)) : am_look 231 pc = some e := lk_of (l := am_t231) rfl (fun _ q => List.mem_append.mpr (.inl q)) hi
theorem q231c1 (i : Nat) {pc : Nat} {e : am_E} (hi : am_t231_1[i]? = some (pc, e)) : am_look 231 pc = some e := lk_of (l := am_t231) rfl (fun _ q => List.mem_append.mpr (.inr (List.mem_append.mpr (.inl q)))) hi
theorem q231c2 (i : Nat) {pc : Nat} {e : am_E} (hi : am_t231_2[i]? = some (pc, e)) : am_look 231 pc = some e := lk_of (l := am_t231) rfl (fun _ q => List.mem_append.mpr (.inr (List.mem_append.mpr (.inr (List.mem_append.mpr (.inl q)))))) hi
theorem q231c3 (i : Nat) {pc : Nat} {e : am_E} (hi : am_t231_3[i]? = some (pc, e)) : am_look 231 pc = some e := lk_of (l := am_t231) rfl (fun _ q => List.mem_append.mpr (.inr (List.mem_append.mpr (.inr (List.mem_append.mpr (.inr (List.mem_append.mpr (.inl q)))))))) hi
theorem q231c4 (i : Nat) {pc : Nat} {e : am_E} (hi : am_t231_4[i]? = some (pc, e)) : am_look 231 pc = some e := lk_of (l := am_t231) rfl (fun _ q => List.mem_append.mpr (.inr (List.mem_append.mpr (.inr (List.mem_append.mpr (.inr (List.mem_append.mpr (.inr (List.mem_append.mpr (.inl q)))))))))) hi
theorem q231c5 (i : Nat) {pc : Nat} {e : am_E} (hi : am_t231_5[i]? = some (pc, e)) : am_look 231 pc = some e := lk_of (l := am_t231) rfl (fun _ q => List.mem_append.mpr (.inr (List.mem_append.mpr (.inr (List.mem_append.mpr (.inr (List.mem_append.mpr (.inr (List.mem_append.mpr (.inr (List.mem_append.mpr (.inl q)))))))))))) hi
theorem q231c6 (i : Nat) {pc : Nat} {e : am_E} (hi : am_t231_6[i]? = some (pc, e)) : am_look 231 pc = some e := lk_of (l := am_t231) rfl (fun _ q => List.mem_append.mpr (.inr (List.mem_append.mpr (.inr (List.mem_append.mpr (.inr (List.mem_append.mpr (.inr (List.mem_append.mpr (.inr (List.mem_append.mpr (.inr (List.mem_append.mpr (.inl q)))))))))))))) hi
theorem q231c7 (i : Nat) {pc : Nat} {e : am_E} (hi : am_t231_7[i]? = some (pc, e)) : am_look 231 pc = some e := lk_of (l := am_t231) rfl (fun _ q => List.mem_append.mpr (.inr (List.mem_append.mpr (.inr (List.mem_append.mpr (.inr (List.mem_append.mpr (.inr (List.mem_append.mpr (.inr (List.mem_append.mpr (.inr (List.mem_append.mpr (.inr (List.mem_append.mpr (.inl q)))))))))))))))) hi
theorem q231c8 (i : Nat) {pc : Nat} {e : am_E} (hi : am_t231_8[i]? = some (pc, e)) : am_look 231 pc = some e := lk_of (l := am_t231) rfl (fun _ q => List.mem_append.mpr (.inr (List.mem_append.mpr (.inr (List.mem_append.mpr (.inr (List.mem_append.mpr (.inr (List.mem_append.mpr (.inr (List.mem_append.mpr (.inr (List.mem_append.mpr (.inr (List.mem_append.mpr (.inr (List.mem_append.mpr (.inl q)))))))))))))))))) hi
theorem q231c9 (i : Nat) {pc : Nat} {e : am_E} (hi : am_t231_9[i]? = some (pc, e)) : am_look 231 pc = some e := lk_of (l := am_t231) rfl (fun _ q => List.mem_append.mpr (.inr (List.mem_append.mpr (.inr (List.mem_append.mpr (.inr (List.mem_append.mpr (.inr (List.mem_append.mpr (.inr (List.mem_append.mpr (.inr (List.mem_append.mpr (.inr (List.mem_append.mpr (.inr (List.mem_append.mpr (.inr (List.mem_append.mpr (.inl q)))))))))))))))))))) hi
theorem q231c10 (i : Nat) {pc : Nat} {e : am_E} (hi : am_t231_10[i]? = some (pc, e)) : am_look 231 pc = some e := lk_of (l := am_t231) rfl (fun _ q => List.mem_append.mpr (.inr (List.mem_append.mpr (.inr (List.mem_append.mpr (.inr (List.mem_append.mpr (.inr (List.mem_append.mpr (.inr (List.mem_append.mpr (.inr (List.mem_append.mpr (.inr (List.mem_append.mpr (.inr (List.mem_append.mpr (.inr (List.mem_append.mpr (.inr (List.mem_append.mpr (.inl q)))))))))))))))))))))) hi
theorem q231c11 (i : Nat) {pc : Nat} {e : am_E} (hi : am_t231_11[i]? = some (pc, e)) : am_look 231 pc = some e := lk_of (l := am_t231) rfl (fun _ q => List.mem_append.mpr (.inr (List.mem_append.mpr (.inr (List.mem_append.mpr (.inr (List.mem_append.mpr (.inr (List.mem_append.mpr (.inr (List.mem_append.mpr (.inr (List.mem_append.mpr (.inr (List.mem_append.mpr (.inr (List.mem_append.mpr (.inr (List.mem_append.mpr (.inr (List.mem_append.mpr (.inr (List.mem_append.mpr (.inl q)))))))))))))))))))))))) hi
theorem q231c12 (i : Nat) {pc : Nat} {e : am_E} (hi : am_t231_12[i]? = some (pc, e)) : am_look 231 pc = some e := lk_of (l := am_t231) rfl (fun _ q => List.mem_append.mpr (.inr (List.mem_append.mpr (.inr (List.mem_append.mpr (.inr (List.mem_append.mpr (.inr (List.mem_append.mpr (.inr (List.mem_append.mpr (.inr (List.mem_append.mpr (.inr (List.mem_append.mpr (.inr (List.mem_append.mpr (.inr (List.mem_append.mpr (.inr (List.mem_append.mpr (.inr (List.mem_append.mpr (.inr (List.mem_append.mpr (.inl q)))))))))))))))))))))))))) hi
theorem q231c13 (i : Nat) {pc : Nat} {e : am_E} (hi : am_t231_13[i]? = some (pc, e)) : am_look 231 pc = some e := lk_of (l := am_t231) rfl (fun _ q => List.mem_append.mpr (.inr (List.mem_append.mpr (.inr (List.mem_append.mpr (.inr (List.mem_append.mpr (.inr (List.mem_append.mpr (.inr (List.mem_append.mpr (.inr (List.mem_append.mpr (.inr (List.mem_append.mpr (.inr (List.mem_append.mpr (.inr (List.mem_append.mpr (.inr (List.mem_append.mpr (.inr (List.mem_append.mpr (.inr (List.mem_append.mpr (.inr (List.mem_append.mpr (.inl q)))))))))))))))))))))))))))) hi
theorem q231c14 (i : Nat) {pc : Nat} {e : am_E} (hi : am_t231_14[i]? = some (pc, e)) : am_look 231 pc = some e := lk_of (l := am_t231) rfl (fun _ q => List.mem_append.mpr (.inr (List.mem_append.mpr (.inr (List.mem_append.mpr (.inr (List.mem_append.mpr (.inr (List.mem_append.mpr (.inr (List.mem_append.mpr (.inr (List.mem_append.mpr (.inr (List.mem_append.mpr (.inr (List.mem_append.mpr (.inr (List.mem_append.mpr (.inr (List.mem_append.mpr (.inr (List.mem_append.mpr (.inr (List.mem_append.mpr (.inr (List.mem_append.mpr (.inr (List.mem_append.mpr (.inl q)))))))))))))))))))))))))))))) hi
theorem q231c15 (i : Nat) {pc : Nat} {e : am_E} (hi : am_t231_15[i]? = some (pc, e)) : am_look 231 pc = some e := lk_of (l := am_t231) rfl (fun _ q => List.mem_append.mpr (.inr (List.mem_append.mpr (.inr (List.mem_append.mpr (.inr (List.mem_append.mpr (.inr (List.mem_append.mpr (.inr (List.mem_append.mpr (.inr (List.mem_append.mpr (.inr (List.mem_append.mpr (.inr (List.mem_append.mpr (.inr (List.mem_append.mpr (.inr (List.mem_append.mpr (.inr (List.mem_append.mpr (.inr (List.mem_append.mpr (.inr (List.mem_append.mpr (.inr (List.mem_append.mpr (.inr (List.mem_append.mpr (.inl q)))))))))))))))))))))))))))))))) hi
theorem q231c16 (i : Nat) {pc : Nat} {e : am_E} (hi : am_t231_16[i]? = some (pc, e)) : am_look 231 pc = some e := lk_of (l := am_t231) rfl (fun _ q => List.mem_append.mpr (.inr (List.mem_append.mpr (.inr (List.mem_append.mpr (.inr (List.mem_append.mpr (.inr (List.mem_append.mpr (.inr (List.mem_append.mpr (.inr (List.mem_append.mpr (.inr (List.mem_append.mpr (.inr (List.mem_append.mpr (.inr (List.mem_append.mpr (.inr (List.mem_append.mpr (.inr (List.mem_append.mpr (.inr (List.mem_append.mpr (.inr (List.mem_append.mpr (.inr (List.mem_append.mpr (.inr (List.mem_append.mpr (.inr (List.mem_append.mpr (.inl q)))))))))))))))))))))))))))))))))) hi
theorem q231c17 (i : Nat) {pc : Nat} {e : am_E} (hi : am_t231_17[i]? = some (pc, e)) : am_look 231 pc = some e := lk_of (l := am_t231) rfl (fun _ q => List.mem_append.mpr (.inr (List.mem_append.mpr (.inr (List.mem_append.mpr (.inr (List.mem_append.mpr (.inr (List.mem_append.mpr (.inr (List.mem_append.mpr (.inr (List.mem_append.mpr (.inr (List.mem_append.mpr (.inr (List.mem_append.mpr (.inr (List.mem_append.mpr (.inr (List.mem_append.mpr (.inr (List.mem_append.mpr (.inr (List.mem_append.mpr (.inr (List.mem_append.mpr (.inr (List.mem_append.mpr (.inr (List.mem_append.mpr (.inr (List.mem_append.mpr (.inr (q))))))))))))))))))))))))))))))))))) hi
theorem zb231 : am_zb 231 = true := by decide +kernel
theorem ml231 : am_ml 231 = 4 := by decide +kernel
theorem ab231 : am_ab 231 = 0 := by decide +kernel
theorem np231 : 1 = am_np 231 + (if am_sc 231 then 0 else 1) := by decide +kernel
