/-! the pairs: every call, on both sides -/
theorem IV_f {c : Int} {h : am_H} {N : Int → Int} {n : Int} {K W B : Int → Int} {S : Int → Int → Int} {T : Int → Int → Int → Int} {m : Int → Int} (J : IV c h N n K W B S T m) (c1 : c < 700) : am_ok (h 0 13 + 1) := by
  have := J.2.2.2.2.2
  unfold I6 at this; omega
theorem p_says {c : Int} {h : am_H} {N : Int → Int} {n : Int} {K W B : Int → Int} {S : Int → Int → Int} {T : Int → Int → Int → Int} {m : Int → Int} {v t d : Int} (J : IV c h N n K W B S T m) (c1 : c < 700) : pr2 185 190 [.inl v, .inl t, .inl d] c h := by
  have O := J.1.2.1
  have X := J.1.2.2.2
  have hf := IV_f J c1
  exact pr_Q (a := sas N v t d) J c1 (Q_says O X hf (fun h1 q => ⟨rfl, q⟩)) (fun h1 f eN hf1 => Q_Msays O eN hf1 (fun h2 q => ⟨rfl, QB_of q⟩)) (by decide) (by decide)
theorem p_far {c : Int} {h : am_H} {N : Int → Int} {n : Int} {K W B : Int → Int} {S : Int → Int → Int} {T : Int → Int → Int → Int} {m : Int → Int} {f g : Int} (J : IV c h N n K W B S T m) (c1 : c < 700) : pr2 184 165 [.inl f, .inl g] c h := by
  have O := J.1.2.1
  have X := J.1.2.2.2
  have hf := IV_f J c1
  exact pr_Q (a := frA N f g) J c1 (Q_far O X hf (fun h1 q => ⟨rfl, q⟩)) (fun h1 f eN hf1 => Q_Mfar O eN hf1 (fun h2 q => ⟨rfl, QB_of q⟩)) (by decide) (by decide)
theorem p_sound {c : Int} {h : am_H} {N : Int → Int} {n : Int} {K W B : Int → Int} {S : Int → Int → Int} {T : Int → Int → Int → Int} {m : Int → Int} {f i : Int} (J : IV c h N n K W B S T m) (c1 : c < 700) : pr2 107 164 [.inl f, .inl i] c h := by
  have O := J.1.2.1
  have X := J.1.2.2.2
  have hf := IV_f J c1
  exact pr_Q (a := snA N f i) J c1 (Q_sound O X hf (fun h1 q => ⟨rfl, q⟩)) (fun h1 f eN hf1 => Q_Msound O eN hf1 (fun h2 q => ⟨rfl, QB_of q⟩)) (by decide) (by decide)
theorem p_answerIs {c : Int} {h : am_H} {N : Int → Int} {n : Int} {K W B : Int → Int} {S : Int → Int → Int} {T : Int → Int → Int → Int} {m : Int → Int} {a i : Int} (J : IV c h N n K W B S T m) (c1 : c < 700) : pr2 108 126 [.inl a, .inl i] c h := by
  have O := J.1.2.1
  have X := J.1.2.2.2
  have hf := IV_f J c1
  exact pr_Q (a := isA N a i) J c1 (Q_answerIs O X hf (fun h1 q => ⟨rfl, q⟩)) (fun h1 f eN hf1 => Q_ManswerIs O eN hf1 (fun h2 q => ⟨rfl, QB_of q⟩)) (by decide) (by decide)
theorem p_weight {c : Int} {h : am_H} {N : Int → Int} {n : Int} {K W B : Int → Int} {S : Int → Int → Int} {T : Int → Int → Int → Int} {m : Int → Int} {v t f d : Int} (J : IV c h N n K W B S T m) (c1 : c < 700) : pr2 186 191 [.inl v, .inl t, .inl f, .inl d] c h := by
  have O := J.1.2.1
  have X := J.1.2.2.2
  have hf := IV_f J c1
  exact pr_Q (a := wgA N v t f d) J c1 (Q_weight O X hf (fun h1 q => ⟨rfl, q⟩)) (fun h1 f eN hf1 => Q_Mweight O eN hf1 (fun h2 q => ⟨rfl, QB_of q⟩)) (by decide) (by decide)
theorem p_as {c : Int} {h : am_H} {N : Int → Int} {n : Int} {K W B : Int → Int} {S : Int → Int → Int} {T : Int → Int → Int → Int} {m : Int → Int} {w x : Int} (J : IV c h N n K W B S T m) (c1 : c < 700) : pr2 106 122 [.inl w, .inl x] c h := by
  have O := J.1.2.1
  have X := J.1.2.2.2
  have hf := IV_f J c1
  exact pr_Q (a := asA N w x) J c1 (Q_as O X hf (fun h1 q => ⟨rfl, q⟩)) (fun h1 f eN hf1 => Q_Mas O eN hf1 (fun h2 q => ⟨rfl, QB_of q⟩)) (by decide) (by decide)
theorem p_walk {c : Int} {h : am_H} {N : Int → Int} {n : Int} {K W B : Int → Int} {S : Int → Int → Int} {T : Int → Int → Int → Int} {m : Int → Int} {a b : Int} (J : IV c h N n K W B S T m) (c1 : c < 700) : pr2 208 162 [.inl a, .inl b] c h := by
  have O := J.1.2.1
  have X := J.1.2.2.2
  have hf := IV_f J c1
  obtain ⟨D, hD⟩ := DW_ex O.1 X.1
  exact pr_Q (a := wlk N D a b) J c1 (Q_walk O hD X hf (fun h1 q => ⟨rfl, q⟩)) (fun h1 f eN hf1 => Q_Mwalk O hD eN hf1 (fun h2 q => ⟨rfl, QB_of q⟩)) (by decide) (by decide)
theorem p_round {c : Int} {h : am_H} {N : Int → Int} {n : Int} {K W B : Int → Int} {S : Int → Int → Int} {T : Int → Int → Int → Int} {m : Int → Int} {a s w : Int} (J : IV c h N n K W B S T m) (c1 : c < 700) (ok : am_ok s) : pr2 230 170 [.inl a, .inl s, .inl w] c h := by
  have O := J.1.2.1
  have X := J.1.2.2.2
  have hf := IV_f J c1
  obtain ⟨D, hD⟩ := DW_ex O.1 X.1
  exact pr_Q (a := rnd N D a s w) J c1 (Q_round O hD ok X hf (fun h1 q => ⟨rfl, q⟩)) (fun h1 f eN hf1 => Q_Mround O hD ok eN hf1 (fun h2 q => ⟨rfl, QB_of q⟩)) (by decide) (by decide)
theorem p_next {c : Int} {h : am_H} {N : Int → Int} {n : Int} {K W B : Int → Int} {S : Int → Int → Int} {T : Int → Int → Int → Int} {m : Int → Int} {t : Int} (J : IV c h N n K W B S T m) (c1 : c < 700) : pr2 225 198 [.inl t] c h := by
  have O := J.1.2.1
  have X := J.1.2.2.2
  have hf := IV_f J c1
  obtain ⟨D, hD⟩ := DW_ex O.1 X.1
  exact pr_Q (a := nxt N D t) J c1 (Q_next O hD X hf (fun h1 q => ⟨rfl, q⟩)) (fun h1 f eN hf1 => Q_Mnext O hD eN hf1 (fun h2 q => ⟨rfl, QB_of q⟩)) (by decide) (by decide)
theorem p_foretold {c : Int} {h : am_H} {N : Int → Int} {n : Int} {K W B : Int → Int} {S : Int → Int → Int} {T : Int → Int → Int → Int} {m : Int → Int} {a t : Int} (J : IV c h N n K W B S T m) (c1 : c < 700) : pr2 226 199 [.inl a, .inl t] c h := by
  have O := J.1.2.1
  have X := J.1.2.2.2
  have hf := IV_f J c1
  obtain ⟨D, hD⟩ := DW_ex O.1 X.1
  exact pr_Q (a := fto N D a t) J c1 (Q_foretold O hD X hf (fun h1 q => ⟨rfl, q⟩)) (fun h1 f eN hf1 => Q_Mforetold O hD eN hf1 (fun h2 q => ⟨rfl, QB_of q⟩)) (by decide) (by decide)
theorem p_spread {c : Int} {h : am_H} {N : Int → Int} {n : Int} {K W B : Int → Int} {S : Int → Int → Int} {T : Int → Int → Int → Int} {m : Int → Int} {s x : Int} (J : IV c h N n K W B S T m) (c1 : c < 700) (ok : am_ok s) : pr2 213 200 [.inl s, .inl x] c h := by
  have O := J.1.2.1
  have X := J.1.2.2.2
  have hf := IV_f J c1
  exact pr_Q (a := spA N s x) J c1 (Q_spread O ok X hf (fun h1 q => ⟨rfl, q⟩)) (fun h1 f eN hf1 => Q_Mspread O ok eN hf1 (fun h2 q => ⟨rfl, QB_of q⟩)) (by decide) (by decide)
theorem p_seeds {c : Int} {h : am_H} {N : Int → Int} {n : Int} {K W B : Int → Int} {S : Int → Int → Int} {T : Int → Int → Int → Int} {m : Int → Int} {x : Int} (J : IV c h N n K W B S T m) (c1 : c < 700) : pr2 227 201 [.inl x] c h := by
  have O := J.1.2.1
  have X := J.1.2.2.2
  have hf := IV_f J c1
  exact pr_Q (a := seA N x) J c1 (Q_seeds O X hf (fun h1 q => ⟨rfl, q⟩)) (fun h1 f eN hf1 => Q_Mseeds O eN hf1 (fun h2 q => ⟨rfl, QB_of q⟩)) (by decide) (by decide)
theorem p_distance {c : Int} {h : am_H} {N : Int → Int} {n : Int} {K W B : Int → Int} {S : Int → Int → Int} {T : Int → Int → Int → Int} {m : Int → Int} {a b d : Int} (J : IV c h N n K W B S T m) (c1 : c < 700) : pr2 224 217 [.inl a, .inl b, .inl d] c h := by
  have O := J.1.2.1
  have X := J.1.2.2.2
  have hf := IV_f J c1
  exact pr_Q (a := diA N a b d) J c1 (Q_distance O X hf (fun h1 q => ⟨rfl, q⟩)) (fun h1 f eN hf1 => Q_Mdistance O eN hf1 (fun h2 q => ⟨rfl, QB_of q⟩)) (by decide) (by decide)
theorem p_becomes {c : Int} {h : am_H} {N : Int → Int} {n : Int} {K W B : Int → Int} {S : Int → Int → Int} {T : Int → Int → Int → Int} {m : Int → Int} {g t i : Int} (J : IV c h N n K W B S T m) (c1 : c < 700) : pr2 187 193 [.inl g, .inl t, .inl i] c h := by
  have O := J.1.2.1
  have X := J.1.2.2.2
  have hf := IV_f J c1
  exact pr_Q (a := bcA N (T t) (m t) g t i) J c1 (Q_becomes O X (fun t0 t1 => ⟨(J.2.2.2.1 t t0 t1).1, (J.2.2.2.1 t t0 t1).2.2⟩) hf (fun h1 q => ⟨rfl, q⟩)) (fun h1 f eN hf1 => Q_Mbecomes O eN (fun t0 t1 => ⟨TM_of (f 64 (by decide)) (f 65 (by decide)) (J.2.2.2.1 t t0 t1).2.1, (J.2.2.2.1 t t0 t1).2.2⟩) hf1 (fun h2 q => ⟨rfl, QB_of q⟩)) (by decide) (by decide)
theorem p_dialects {c : Int} {h : am_H} {N : Int → Int} {n : Int} {K W B : Int → Int} {S : Int → Int → Int} {T : Int → Int → Int → Int} {m : Int → Int} {k w : Int} (J : IV c h N n K W B S T m) (c1 : c < 700) : pr2 228 218 [.inl k, .inl w] c h := by
  have O := J.1.2.1
  have X := J.1.2.2.2
  have hf := IV_f J c1
  exact pr_Q (a := dlA N k w) J c1 (Q_dialects O X hf (fun h1 q => ⟨rfl, q⟩)) (fun h1 f eN hf1 => Q_Mdialects O eN hf1 (fun h2 q => ⟨rfl, QB_of q⟩)) (by decide) (by decide)
theorem p_proves {c : Int} {h : am_H} {N : Int → Int} {n : Int} {K W B : Int → Int} {S : Int → Int → Int} {T : Int → Int → Int → Int} {m : Int → Int} {s x : Int} (J : IV c h N n K W B S T m) (c1 : c < 700) : pr2 229 219 [.inl s, .inl x] c h := by
  have O := J.1.2.1
  have X := J.1.2.2.2
  have hf := IV_f J c1
  exact pr_Q (a := pvA N (h 76) (h 77) (h 78) s x) J c1 (Q_proves O X J.2.2.2.2.1.1 J.2.2.2.2.1.2.1 J.2.2.2.2.1.2.2.1 J.2.2.2.2.1.2.2.2 hf (fun h1 q => ⟨rfl, q⟩)) (fun h1 f eN hf1 => Q_Mproves O eN (f 76 (by decide)) (f 77 (by decide)) (f 78 (by decide)) J.2.2.2.2.1.2.2.2 hf1 (fun h2 q => ⟨rfl, QB_of q⟩)) (by decide) (by decide)
theorem p_border {c : Int} {h : am_H} {N : Int → Int} {n : Int} {K W B : Int → Int} {S : Int → Int → Int} {T : Int → Int → Int → Int} {m : Int → Int} {t a b w : Int} (J : IV c h N n K W B S T m) (c1 : c < 700) : pr2 223 196 [.inl t, .inl a, .inl b, .inl w] c h := by
  have O := J.1.2.1
  have X := J.1.2.2.2
  have hf := IV_f J c1
  have k6 : I6 c h := J.2.2.2.2.2
  unfold I6 at k6
  exact pr_Q (a := boA N t a b w) J c1 (Q_border O X hf (fun h1 q => ⟨rfl, q⟩)) (fun h1 f eN hf1 => Q_Mborder O eN (by rw [f 1000 (by decide)]; omega) (by rw [f 1000 (by decide)]; omega) hf1 (fun h2 q => ⟨rfl, q⟩)) (by decide) (by decide)
theorem p_changes {c : Int} {h : am_H} {N : Int → Int} {n : Int} {K W B : Int → Int} {S : Int → Int → Int} {T : Int → Int → Int → Int} {m : Int → Int} {t : Int} (J : IV c h N n K W B S T m) (c1 : c < 700) : pr2 110 130 [.inl t] c h := by
  have O := J.1.2.1
  have X := J.1.2.2.2
  have hf := IV_f J c1
  exact pr_Q (a := chA (m t) t) J c1 (Q_changes X (fun t0 t1 => ⟨(J.2.2.2.1 t t0 t1).1.1, (J.2.2.2.1 t t0 t1).2.2.2.1⟩) hf (fun h1 q => ⟨rfl, q⟩)) (fun h1 f eN hf1 => Q_Mchanges (fun t0 t1 => ⟨by rw [f 64 (by decide)]; exact (J.2.2.2.1 t t0 t1).2.1.1, (J.2.2.2.1 t t0 t1).2.2.2.1⟩) hf1 (fun h2 q => ⟨rfl, QB_of q⟩)) (by decide) (by decide)
theorem p_explains {c : Int} {h : am_H} {N : Int → Int} {n : Int} {K W B : Int → Int} {S : Int → Int → Int} {T : Int → Int → Int → Int} {m : Int → Int} {v t g : Int} (J : IV c h N n K W B S T m) (c1 : c < 700) : pr2 211 194 [.inl v, .inl t, .inl g] c h := by
  have O := J.1.2.1
  have X := J.1.2.2.2
  have hf := IV_f J c1
  exact pr_Q (a := exA N T m v t g) J c1 (Q_explains O J.1.2.2.1 X (fun t t0 t1 => ⟨(J.2.2.2.1 t t0 t1).1, (J.2.2.2.1 t t0 t1).2.2⟩) hf (fun h1 q => ⟨rfl, q⟩)) (fun h1 f eN hf1 => Q_Mexplains O eN (fun t t0 t1 => ⟨TM_of (f 64 (by decide)) (f 65 (by decide)) (J.2.2.2.1 t t0 t1).2.1, (J.2.2.2.1 t t0 t1).2.2⟩) hf1 (fun h2 q => ⟨rfl, QB_of q⟩)) (by decide) (by decide)
theorem p_covers {c : Int} {h : am_H} {N : Int → Int} {n : Int} {K W B : Int → Int} {S : Int → Int → Int} {T : Int → Int → Int → Int} {m : Int → Int} {t a g : Int} (J : IV c h N n K W B S T m) (c1 : c < 700) : pr2 212 195 [.inl t, .inl a, .inl g] c h := by
  have O := J.1.2.1
  have X := J.1.2.2.2
  have hf := IV_f J c1
  exact pr_Q (a := cvA N (T t) (m t) t a g) J c1 (Q_covers O J.1.2.2.1 X (fun t0 t1 => ⟨(J.2.2.2.1 t t0 t1).1, (J.2.2.2.1 t t0 t1).2.2⟩) hf (fun h1 q => ⟨rfl, q⟩)) (fun h1 f eN hf1 => Q_Mcovers O eN (fun t0 t1 => ⟨TM_of (f 64 (by decide)) (f 65 (by decide)) (J.2.2.2.1 t t0 t1).2.1, (J.2.2.2.1 t t0 t1).2.2⟩) hf1 (fun h2 q => ⟨rfl, QB_of q⟩)) (by decide) (by decide)
theorem p_count {c : Int} {h : am_H} {N : Int → Int} {n : Int} {K W B : Int → Int} {S : Int → Int → Int} {T : Int → Int → Int → Int} {m : Int → Int} {k : Int} (J : IV c h N n K W B S T m) (c1 : c < 700) : pr2 214 136 [.inl k] c h := by
  have O := J.1.2.1
  have X := J.1.2.2.2
  have hf := IV_f J c1
  have k6 : I6 c h := J.2.2.2.2.2
  unfold I6 at k6
  have e : ∀ h1 : am_H, (∀ p, 55 < p → h1 p = h p) → h1 56 3 = h 0 13 := fun h1 f => by rw [f 56 (by decide)]; exact k6.1.symm
  exact pr_Q (a := ct N (h 0 13) k) J c1 (Q_count O X (by omega) hf (fun h1 q => ⟨rfl, q⟩)) (fun h1 f eN hf1 => Q_Mcount O eN (by have := e h1 f; omega) hf1 (fun h2 q => by rw [e h1 f] at q ⊢; exact ⟨rfl, QB_of q⟩)) (by decide) (by decide)
