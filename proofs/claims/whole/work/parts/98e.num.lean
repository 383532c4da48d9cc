/-! ===== THE TEXT: words of the reference ===== -/
theorem wm_0 (b : Nat → Nat) (k f e : Nat) : (WM b k f e 0 = true) ↔ (k = 1 ∧ e = f + 4) ∧ b (f + 0) = 109 ∧ b (f + 1) = 97 ∧ b (f + 2) = 114 ∧ b (f + 3) = 107 := by
  have hl : wln 0 = 4 := by decide
  have c0 : chr 0 0 = 109 := by decide
  have c1 : chr 0 1 = 97 := by decide
  have c2 : chr 0 2 = 114 := by decide
  have c3 : chr 0 3 = 107 := by decide
  have hr : List.range 4 = [0, 1, 2, 3] := rfl
  unfold WM
  rw [hl, hr]
  simp only [List.all_cons, List.all_nil, Bool.and_eq_true, beq_iff_eq, decide_eq_true_eq, Bool.and_true, c0, c1, c2, c3]
theorem wm_1 (b : Nat → Nat) (k f e : Nat) : (WM b k f e 1 = true) ↔ (k = 1 ∧ e = f + 3) ∧ b (f + 0) = 108 ∧ b (f + 1) = 97 ∧ b (f + 2) = 119 := by
  have hl : wln 1 = 3 := by decide
  have c0 : chr 1 0 = 108 := by decide
  have c1 : chr 1 1 = 97 := by decide
  have c2 : chr 1 2 = 119 := by decide
  have hr : List.range 3 = [0, 1, 2] := rfl
  unfold WM
  rw [hl, hr]
  simp only [List.all_cons, List.all_nil, Bool.and_eq_true, beq_iff_eq, decide_eq_true_eq, Bool.and_true, c0, c1, c2]
theorem wm_2 (b : Nat → Nat) (k f e : Nat) : (WM b k f e 2 = true) ↔ (k = 1 ∧ e = f + 4) ∧ b (f + 0) = 108 ∧ b (f + 1) = 105 ∧ b (f + 2) = 107 ∧ b (f + 3) = 101 := by
  have hl : wln 2 = 4 := by decide
  have c0 : chr 2 0 = 108 := by decide
  have c1 : chr 2 1 = 105 := by decide
  have c2 : chr 2 2 = 107 := by decide
  have c3 : chr 2 3 = 101 := by decide
  have hr : List.range 4 = [0, 1, 2, 3] := rfl
  unfold WM
  rw [hl, hr]
  simp only [List.all_cons, List.all_nil, Bool.and_eq_true, beq_iff_eq, decide_eq_true_eq, Bool.and_true, c0, c1, c2, c3]
theorem wm_3 (b : Nat → Nat) (k f e : Nat) : (WM b k f e 3 = true) ↔ (k = 1 ∧ e = f + 3) ∧ b (f + 0) = 97 ∧ b (f + 1) = 103 ∧ b (f + 2) = 101 := by
  have hl : wln 3 = 3 := by decide
  have c0 : chr 3 0 = 97 := by decide
  have c1 : chr 3 1 = 103 := by decide
  have c2 : chr 3 2 = 101 := by decide
  have hr : List.range 3 = [0, 1, 2] := rfl
  unfold WM
  rw [hl, hr]
  simp only [List.all_cons, List.all_nil, Bool.and_eq_true, beq_iff_eq, decide_eq_true_eq, Bool.and_true, c0, c1, c2]
theorem wm_4 (b : Nat → Nat) (k f e : Nat) : (WM b k f e 4 = true) ↔ (k = 1 ∧ e = f + 5) ∧ b (f + 0) = 103 ∧ b (f + 1) = 111 ∧ b (f + 2) = 111 ∧ b (f + 3) = 100 ∧ b (f + 4) = 115 := by
  have hl : wln 4 = 5 := by decide
  have c0 : chr 4 0 = 103 := by decide
  have c1 : chr 4 1 = 111 := by decide
  have c2 : chr 4 2 = 111 := by decide
  have c3 : chr 4 3 = 100 := by decide
  have c4 : chr 4 4 = 115 := by decide
  have hr : List.range 5 = [0, 1, 2, 3, 4] := rfl
  unfold WM
  rw [hl, hr]
  simp only [List.all_cons, List.all_nil, Bool.and_eq_true, beq_iff_eq, decide_eq_true_eq, Bool.and_true, c0, c1, c2, c3, c4]
theorem wm_5 (b : Nat → Nat) (k f e : Nat) : (WM b k f e 5 = true) ↔ (k = 1 ∧ e = f + 4) ∧ b (f + 0) = 116 ∧ b (f + 1) = 101 ∧ b (f + 2) = 114 ∧ b (f + 3) = 109 := by
  have hl : wln 5 = 4 := by decide
  have c0 : chr 5 0 = 116 := by decide
  have c1 : chr 5 1 = 101 := by decide
  have c2 : chr 5 2 = 114 := by decide
  have c3 : chr 5 3 = 109 := by decide
  have hr : List.range 4 = [0, 1, 2, 3] := rfl
  unfold WM
  rw [hl, hr]
  simp only [List.all_cons, List.all_nil, Bool.and_eq_true, beq_iff_eq, decide_eq_true_eq, Bool.and_true, c0, c1, c2, c3]
theorem wm_6 (b : Nat → Nat) (k f e : Nat) : (WM b k f e 6 = true) ↔ (k = 1 ∧ e = f + 5) ∧ b (f + 0) = 99 ∧ b (f + 1) = 104 ∧ b (f + 2) = 105 ∧ b (f + 3) = 108 ∧ b (f + 4) = 100 := by
  have hl : wln 6 = 5 := by decide
  have c0 : chr 6 0 = 99 := by decide
  have c1 : chr 6 1 = 104 := by decide
  have c2 : chr 6 2 = 105 := by decide
  have c3 : chr 6 3 = 108 := by decide
  have c4 : chr 6 4 = 100 := by decide
  have hr : List.range 5 = [0, 1, 2, 3, 4] := rfl
  unfold WM
  rw [hl, hr]
  simp only [List.all_cons, List.all_nil, Bool.and_eq_true, beq_iff_eq, decide_eq_true_eq, Bool.and_true, c0, c1, c2, c3, c4]
theorem wm_7 (b : Nat → Nat) (k f e : Nat) : (WM b k f e 7 = true) ↔ (k = 1 ∧ e = f + 6) ∧ b (f + 0) = 119 ∧ b (f + 1) = 101 ∧ b (f + 2) = 105 ∧ b (f + 3) = 103 ∧ b (f + 4) = 104 ∧ b (f + 5) = 115 := by
  have hl : wln 7 = 6 := by decide
  have c0 : chr 7 0 = 119 := by decide
  have c1 : chr 7 1 = 101 := by decide
  have c2 : chr 7 2 = 105 := by decide
  have c3 : chr 7 3 = 103 := by decide
  have c4 : chr 7 4 = 104 := by decide
  have c5 : chr 7 5 = 115 := by decide
  have hr : List.range 6 = [0, 1, 2, 3, 4, 5] := rfl
  unfold WM
  rw [hl, hr]
  simp only [List.all_cons, List.all_nil, Bool.and_eq_true, beq_iff_eq, decide_eq_true_eq, Bool.and_true, c0, c1, c2, c3, c4, c5]
theorem wm_8 (b : Nat → Nat) (k f e : Nat) : (WM b k f e 8 = true) ↔ (k = 1 ∧ e = f + 5) ∧ b (f + 0) = 99 ∧ b (f + 1) = 111 ∧ b (f + 2) = 115 ∧ b (f + 3) = 116 ∧ b (f + 4) = 115 := by
  have hl : wln 8 = 5 := by decide
  have c0 : chr 8 0 = 99 := by decide
  have c1 : chr 8 1 = 111 := by decide
  have c2 : chr 8 2 = 115 := by decide
  have c3 : chr 8 3 = 116 := by decide
  have c4 : chr 8 4 = 115 := by decide
  have hr : List.range 5 = [0, 1, 2, 3, 4] := rfl
  unfold WM
  rw [hl, hr]
  simp only [List.all_cons, List.all_nil, Bool.and_eq_true, beq_iff_eq, decide_eq_true_eq, Bool.and_true, c0, c1, c2, c3, c4]
theorem wm_9 (b : Nat → Nat) (k f e : Nat) : (WM b k f e 9 = true) ↔ (k = 1 ∧ e = f + 6) ∧ b (f + 0) = 99 ∧ b (f + 1) = 111 ∧ b (f + 2) = 112 ∧ b (f + 3) = 105 ∧ b (f + 4) = 101 ∧ b (f + 5) = 114 := by
  have hl : wln 9 = 6 := by decide
  have c0 : chr 9 0 = 99 := by decide
  have c1 : chr 9 1 = 111 := by decide
  have c2 : chr 9 2 = 112 := by decide
  have c3 : chr 9 3 = 105 := by decide
  have c4 : chr 9 4 = 101 := by decide
  have c5 : chr 9 5 = 114 := by decide
  have hr : List.range 6 = [0, 1, 2, 3, 4, 5] := rfl
  unfold WM
  rw [hl, hr]
  simp only [List.all_cons, List.all_nil, Bool.and_eq_true, beq_iff_eq, decide_eq_true_eq, Bool.and_true, c0, c1, c2, c3, c4, c5]
theorem wm_10 (b : Nat → Nat) (k f e : Nat) : (WM b k f e 10 = true) ↔ (k = 1 ∧ e = f + 7) ∧ b (f + 0) = 115 ∧ b (f + 1) = 104 ∧ b (f + 2) = 117 ∧ b (f + 3) = 110 ∧ b (f + 4) = 110 ∧ b (f + 5) = 101 ∧ b (f + 6) = 114 := by
  have hl : wln 10 = 7 := by decide
  have c0 : chr 10 0 = 115 := by decide
  have c1 : chr 10 1 = 104 := by decide
  have c2 : chr 10 2 = 117 := by decide
  have c3 : chr 10 3 = 110 := by decide
  have c4 : chr 10 4 = 110 := by decide
  have c5 : chr 10 5 = 101 := by decide
  have c6 : chr 10 6 = 114 := by decide
  have hr : List.range 7 = [0, 1, 2, 3, 4, 5, 6] := rfl
  unfold WM
  rw [hl, hr]
  simp only [List.all_cons, List.all_nil, Bool.and_eq_true, beq_iff_eq, decide_eq_true_eq, Bool.and_true, c0, c1, c2, c3, c4, c5, c6]
theorem wm_11 (b : Nat → Nat) (k f e : Nat) : (WM b k f e 11 = true) ↔ (k = 1 ∧ e = f + 3) ∧ b (f + 0) = 107 ∧ b (f + 1) = 105 ∧ b (f + 2) = 110 := by
  have hl : wln 11 = 3 := by decide
  have c0 : chr 11 0 = 107 := by decide
  have c1 : chr 11 1 = 105 := by decide
  have c2 : chr 11 2 = 110 := by decide
  have hr : List.range 3 = [0, 1, 2] := rfl
  unfold WM
  rw [hl, hr]
  simp only [List.all_cons, List.all_nil, Bool.and_eq_true, beq_iff_eq, decide_eq_true_eq, Bool.and_true, c0, c1, c2]
theorem wm_12 (b : Nat → Nat) (k f e : Nat) : (WM b k f e 12 = true) ↔ (k = 1 ∧ e = f + 5) ∧ b (f + 0) = 115 ∧ b (f + 1) = 119 ∧ b (f + 2) = 111 ∧ b (f + 3) = 114 ∧ b (f + 4) = 110 := by
  have hl : wln 12 = 5 := by decide
  have c0 : chr 12 0 = 115 := by decide
  have c1 : chr 12 1 = 119 := by decide
  have c2 : chr 12 2 = 111 := by decide
  have c3 : chr 12 3 = 114 := by decide
  have c4 : chr 12 4 = 110 := by decide
  have hr : List.range 5 = [0, 1, 2, 3, 4] := rfl
  unfold WM
  rw [hl, hr]
  simp only [List.all_cons, List.all_nil, Bool.and_eq_true, beq_iff_eq, decide_eq_true_eq, Bool.and_true, c0, c1, c2, c3, c4]
theorem wm_13 (b : Nat → Nat) (k f e : Nat) : (WM b k f e 13 = true) ↔ (k = 1 ∧ e = f + 4) ∧ b (f + 0) = 116 ∧ b (f + 1) = 119 ∧ b (f + 2) = 105 ∧ b (f + 3) = 110 := by
  have hl : wln 13 = 4 := by decide
  have c0 : chr 13 0 = 116 := by decide
  have c1 : chr 13 1 = 119 := by decide
  have c2 : chr 13 2 = 105 := by decide
  have c3 : chr 13 3 = 110 := by decide
  have hr : List.range 4 = [0, 1, 2, 3] := rfl
  unfold WM
  rw [hl, hr]
  simp only [List.all_cons, List.all_nil, Bool.and_eq_true, beq_iff_eq, decide_eq_true_eq, Bool.and_true, c0, c1, c2, c3]
theorem wm_14 (b : Nat → Nat) (k f e : Nat) : (WM b k f e 14 = true) ↔ (k = 1 ∧ e = f + 6) ∧ b (f + 0) = 112 ∧ b (f + 1) = 101 ∧ b (f + 2) = 114 ∧ b (f + 3) = 115 ∧ b (f + 4) = 111 ∧ b (f + 5) = 110 := by
  have hl : wln 14 = 6 := by decide
  have c0 : chr 14 0 = 112 := by decide
  have c1 : chr 14 1 = 101 := by decide
  have c2 : chr 14 2 = 114 := by decide
  have c3 : chr 14 3 = 115 := by decide
  have c4 : chr 14 4 = 111 := by decide
  have c5 : chr 14 5 = 110 := by decide
  have hr : List.range 6 = [0, 1, 2, 3, 4, 5] := rfl
  unfold WM
  rw [hl, hr]
  simp only [List.all_cons, List.all_nil, Bool.and_eq_true, beq_iff_eq, decide_eq_true_eq, Bool.and_true, c0, c1, c2, c3, c4, c5]
section MWORD
variable {N : Nat} {b : Nat → Nat} {n : Nat} {d : MD} {k f e v u : Nat}
theorem mw3 {α : Type} (A B : Option α) (hT : BTm b n d) (hM : MS d k f e v) (hF : TF b n k f e u v) {w : Nat} {x0 x1 x2 : Nat} (hw : (WM b k f e w = true) ↔ (k = 1 ∧ e = f + 3) ∧ b (f + 0) = x0 ∧ b (f + 1) = x1 ∧ b (f + 2) = x2) (g0 : x0 < 256) (g1 : x1 < 256) (g2 : x2 < 256) : ((f_X5_isWord N (nI 3) d).bind fun y => if y = 0 then A else (f_X5_has3 N (nI 0) (nI x0) (nI x1) (nI x2) d).bind fun y => if y = 0 then A else B) = if WM b k f e w then B else A := by
  have h1 := hT.1
  obtain ⟨t1, t2, t3, -⟩ := hF
  rw [m_isWord hM t3 t1 (by omega) (by omega), some_bind', if10]
  by_cases c : k = 1 ∧ e = f + 3
  · rw [if_pos c]
    rw [m_has3 hT hM (i := 0) (by omega) g0 g1 g2, some_bind', if10]
    by_cases q0 : ¬ (b (f + 0) = x0 ∧ b (f + 0 + 1) = x1 ∧ b (f + 0 + 2) = x2)
    · rw [if_neg q0, if_neg (fun z => q0 (by
        have z2 := (hw.mp z).2
        simp only [Nat.add_assoc, Nat.reduceAdd] at z2 ⊢
        omega))]
    have q0 := Classical.not_not.mp q0
    rw [if_pos q0]
    simp only [Nat.add_assoc, Nat.reduceAdd] at q0
    rw [if_pos (hw.mpr ⟨c, by omega⟩)]
  · rw [if_neg c, if_neg (fun z => c (hw.mp z).1)]
theorem mw4 {α : Type} (A B : Option α) (hT : BTm b n d) (hM : MS d k f e v) (hF : TF b n k f e u v) {w : Nat} {x0 x1 x2 x3 : Nat} (hw : (WM b k f e w = true) ↔ (k = 1 ∧ e = f + 4) ∧ b (f + 0) = x0 ∧ b (f + 1) = x1 ∧ b (f + 2) = x2 ∧ b (f + 3) = x3) (g0 : x0 < 256) (g1 : x1 < 256) (g2 : x2 < 256) (g3 : x3 < 256) : ((f_X5_isWord N (nI 4) d).bind fun y => if y = 0 then A else (f_X5_has3 N (nI 0) (nI x0) (nI x1) (nI x2) d).bind fun y => if y = 0 then A else (f_X5_has3 N (nI 1) (nI x1) (nI x2) (nI x3) d).bind fun y => if y = 0 then A else B) = if WM b k f e w then B else A := by
  have h1 := hT.1
  obtain ⟨t1, t2, t3, -⟩ := hF
  rw [m_isWord hM t3 t1 (by omega) (by omega), some_bind', if10]
  by_cases c : k = 1 ∧ e = f + 4
  · rw [if_pos c]
    rw [m_has3 hT hM (i := 0) (by omega) g0 g1 g2, some_bind', if10]
    by_cases q0 : ¬ (b (f + 0) = x0 ∧ b (f + 0 + 1) = x1 ∧ b (f + 0 + 2) = x2)
    · rw [if_neg q0, if_neg (fun z => q0 (by
        have z2 := (hw.mp z).2
        simp only [Nat.add_assoc, Nat.reduceAdd] at z2 ⊢
        omega))]
    have q0 := Classical.not_not.mp q0
    rw [if_pos q0]
    simp only [Nat.add_assoc, Nat.reduceAdd] at q0
    rw [m_has3 hT hM (i := 1) (by omega) g1 g2 g3, some_bind', if10]
    by_cases q1 : ¬ (b (f + 1) = x1 ∧ b (f + 1 + 1) = x2 ∧ b (f + 1 + 2) = x3)
    · rw [if_neg q1, if_neg (fun z => q1 (by
        have z2 := (hw.mp z).2
        simp only [Nat.add_assoc, Nat.reduceAdd] at z2 ⊢
        omega))]
    have q1 := Classical.not_not.mp q1
    rw [if_pos q1]
    simp only [Nat.add_assoc, Nat.reduceAdd] at q1
    rw [if_pos (hw.mpr ⟨c, by omega⟩)]
  · rw [if_neg c, if_neg (fun z => c (hw.mp z).1)]
theorem mw5 {α : Type} (A B : Option α) (hT : BTm b n d) (hM : MS d k f e v) (hF : TF b n k f e u v) {w : Nat} {x0 x1 x2 x3 x4 : Nat} (hw : (WM b k f e w = true) ↔ (k = 1 ∧ e = f + 5) ∧ b (f + 0) = x0 ∧ b (f + 1) = x1 ∧ b (f + 2) = x2 ∧ b (f + 3) = x3 ∧ b (f + 4) = x4) (g0 : x0 < 256) (g1 : x1 < 256) (g2 : x2 < 256) (g3 : x3 < 256) (g4 : x4 < 256) : ((f_X5_isWord N (nI 5) d).bind fun y => if y = 0 then A else (f_X5_has3 N (nI 0) (nI x0) (nI x1) (nI x2) d).bind fun y => if y = 0 then A else (f_X5_has3 N (nI 2) (nI x2) (nI x3) (nI x4) d).bind fun y => if y = 0 then A else B) = if WM b k f e w then B else A := by
  have h1 := hT.1
  obtain ⟨t1, t2, t3, -⟩ := hF
  rw [m_isWord hM t3 t1 (by omega) (by omega), some_bind', if10]
  by_cases c : k = 1 ∧ e = f + 5
  · rw [if_pos c]
    rw [m_has3 hT hM (i := 0) (by omega) g0 g1 g2, some_bind', if10]
    by_cases q0 : ¬ (b (f + 0) = x0 ∧ b (f + 0 + 1) = x1 ∧ b (f + 0 + 2) = x2)
    · rw [if_neg q0, if_neg (fun z => q0 (by
        have z2 := (hw.mp z).2
        simp only [Nat.add_assoc, Nat.reduceAdd] at z2 ⊢
        omega))]
    have q0 := Classical.not_not.mp q0
    rw [if_pos q0]
    simp only [Nat.add_assoc, Nat.reduceAdd] at q0
    rw [m_has3 hT hM (i := 2) (by omega) g2 g3 g4, some_bind', if10]
    by_cases q1 : ¬ (b (f + 2) = x2 ∧ b (f + 2 + 1) = x3 ∧ b (f + 2 + 2) = x4)
    · rw [if_neg q1, if_neg (fun z => q1 (by
        have z2 := (hw.mp z).2
        simp only [Nat.add_assoc, Nat.reduceAdd] at z2 ⊢
        omega))]
    have q1 := Classical.not_not.mp q1
    rw [if_pos q1]
    simp only [Nat.add_assoc, Nat.reduceAdd] at q1
    rw [if_pos (hw.mpr ⟨c, by omega⟩)]
  · rw [if_neg c, if_neg (fun z => c (hw.mp z).1)]
theorem mw6 {α : Type} (A B : Option α) (hT : BTm b n d) (hM : MS d k f e v) (hF : TF b n k f e u v) {w : Nat} {x0 x1 x2 x3 x4 x5 : Nat} (hw : (WM b k f e w = true) ↔ (k = 1 ∧ e = f + 6) ∧ b (f + 0) = x0 ∧ b (f + 1) = x1 ∧ b (f + 2) = x2 ∧ b (f + 3) = x3 ∧ b (f + 4) = x4 ∧ b (f + 5) = x5) (g0 : x0 < 256) (g1 : x1 < 256) (g2 : x2 < 256) (g3 : x3 < 256) (g4 : x4 < 256) (g5 : x5 < 256) : ((f_X5_isWord N (nI 6) d).bind fun y => if y = 0 then A else (f_X5_has3 N (nI 0) (nI x0) (nI x1) (nI x2) d).bind fun y => if y = 0 then A else (f_X5_has3 N (nI 3) (nI x3) (nI x4) (nI x5) d).bind fun y => if y = 0 then A else B) = if WM b k f e w then B else A := by
  have h1 := hT.1
  obtain ⟨t1, t2, t3, -⟩ := hF
  rw [m_isWord hM t3 t1 (by omega) (by omega), some_bind', if10]
  by_cases c : k = 1 ∧ e = f + 6
  · rw [if_pos c]
    rw [m_has3 hT hM (i := 0) (by omega) g0 g1 g2, some_bind', if10]
    by_cases q0 : ¬ (b (f + 0) = x0 ∧ b (f + 0 + 1) = x1 ∧ b (f + 0 + 2) = x2)
    · rw [if_neg q0, if_neg (fun z => q0 (by
        have z2 := (hw.mp z).2
        simp only [Nat.add_assoc, Nat.reduceAdd] at z2 ⊢
        omega))]
    have q0 := Classical.not_not.mp q0
    rw [if_pos q0]
    simp only [Nat.add_assoc, Nat.reduceAdd] at q0
    rw [m_has3 hT hM (i := 3) (by omega) g3 g4 g5, some_bind', if10]
    by_cases q1 : ¬ (b (f + 3) = x3 ∧ b (f + 3 + 1) = x4 ∧ b (f + 3 + 2) = x5)
    · rw [if_neg q1, if_neg (fun z => q1 (by
        have z2 := (hw.mp z).2
        simp only [Nat.add_assoc, Nat.reduceAdd] at z2 ⊢
        omega))]
    have q1 := Classical.not_not.mp q1
    rw [if_pos q1]
    simp only [Nat.add_assoc, Nat.reduceAdd] at q1
    rw [if_pos (hw.mpr ⟨c, by omega⟩)]
  · rw [if_neg c, if_neg (fun z => c (hw.mp z).1)]
theorem mw7 {α : Type} (A B : Option α) (hT : BTm b n d) (hM : MS d k f e v) (hF : TF b n k f e u v) {w : Nat} {x0 x1 x2 x3 x4 x5 x6 : Nat} (hw : (WM b k f e w = true) ↔ (k = 1 ∧ e = f + 7) ∧ b (f + 0) = x0 ∧ b (f + 1) = x1 ∧ b (f + 2) = x2 ∧ b (f + 3) = x3 ∧ b (f + 4) = x4 ∧ b (f + 5) = x5 ∧ b (f + 6) = x6) (g0 : x0 < 256) (g1 : x1 < 256) (g2 : x2 < 256) (g3 : x3 < 256) (g4 : x4 < 256) (g5 : x5 < 256) (g6 : x6 < 256) : ((f_X5_isWord N (nI 7) d).bind fun y => if y = 0 then A else (f_X5_has3 N (nI 0) (nI x0) (nI x1) (nI x2) d).bind fun y => if y = 0 then A else (f_X5_has3 N (nI 3) (nI x3) (nI x4) (nI x5) d).bind fun y => if y = 0 then A else (f_X5_has3 N (nI 4) (nI x4) (nI x5) (nI x6) d).bind fun y => if y = 0 then A else B) = if WM b k f e w then B else A := by
  have h1 := hT.1
  obtain ⟨t1, t2, t3, -⟩ := hF
  rw [m_isWord hM t3 t1 (by omega) (by omega), some_bind', if10]
  by_cases c : k = 1 ∧ e = f + 7
  · rw [if_pos c]
    rw [m_has3 hT hM (i := 0) (by omega) g0 g1 g2, some_bind', if10]
    by_cases q0 : ¬ (b (f + 0) = x0 ∧ b (f + 0 + 1) = x1 ∧ b (f + 0 + 2) = x2)
    · rw [if_neg q0, if_neg (fun z => q0 (by
        have z2 := (hw.mp z).2
        simp only [Nat.add_assoc, Nat.reduceAdd] at z2 ⊢
        omega))]
    have q0 := Classical.not_not.mp q0
    rw [if_pos q0]
    simp only [Nat.add_assoc, Nat.reduceAdd] at q0
    rw [m_has3 hT hM (i := 3) (by omega) g3 g4 g5, some_bind', if10]
    by_cases q1 : ¬ (b (f + 3) = x3 ∧ b (f + 3 + 1) = x4 ∧ b (f + 3 + 2) = x5)
    · rw [if_neg q1, if_neg (fun z => q1 (by
        have z2 := (hw.mp z).2
        simp only [Nat.add_assoc, Nat.reduceAdd] at z2 ⊢
        omega))]
    have q1 := Classical.not_not.mp q1
    rw [if_pos q1]
    simp only [Nat.add_assoc, Nat.reduceAdd] at q1
    rw [m_has3 hT hM (i := 4) (by omega) g4 g5 g6, some_bind', if10]
    by_cases q2 : ¬ (b (f + 4) = x4 ∧ b (f + 4 + 1) = x5 ∧ b (f + 4 + 2) = x6)
    · rw [if_neg q2, if_neg (fun z => q2 (by
        have z2 := (hw.mp z).2
        simp only [Nat.add_assoc, Nat.reduceAdd] at z2 ⊢
        omega))]
    have q2 := Classical.not_not.mp q2
    rw [if_pos q2]
    simp only [Nat.add_assoc, Nat.reduceAdd] at q2
    rw [if_pos (hw.mpr ⟨c, by omega⟩)]
  · rw [if_neg c, if_neg (fun z => c (hw.mp z).1)]
theorem mq_0 (hT : BTm b n d) (hM : MS d k f e v) (hF : TF b n k f e u v) : f_X5_isFour N (109 : Int32) (97 : Int32) (114 : Int32) (107 : Int32) d = some (if WM b k f e 0 then 1 else 0) := by
  have z := mw4 (N := N) (some (0 : Int32)) (some 1) hT hM hF (wm_0 b k f e) (by decide) (by decide) (by decide) (by decide)
  unfold f_X5_isFour
  refine Eq.trans z ?_
  split <;> rfl
theorem mq_2 (hT : BTm b n d) (hM : MS d k f e v) (hF : TF b n k f e u v) : f_X5_isFour N (108 : Int32) (105 : Int32) (107 : Int32) (101 : Int32) d = some (if WM b k f e 2 then 1 else 0) := by
  have z := mw4 (N := N) (some (0 : Int32)) (some 1) hT hM hF (wm_2 b k f e) (by decide) (by decide) (by decide) (by decide)
  unfold f_X5_isFour
  refine Eq.trans z ?_
  split <;> rfl
theorem mq_4 (hT : BTm b n d) (hM : MS d k f e v) (hF : TF b n k f e u v) : f_X5_isFive N (103 : Int32) (111 : Int32) (111 : Int32) (100 : Int32) (115 : Int32) d = some (if WM b k f e 4 then 1 else 0) := by
  have z := mw5 (N := N) (some (0 : Int32)) (some 1) hT hM hF (wm_4 b k f e) (by decide) (by decide) (by decide) (by decide) (by decide)
  unfold f_X5_isFive
  refine Eq.trans z ?_
  split <;> rfl
theorem mq_5 (hT : BTm b n d) (hM : MS d k f e v) (hF : TF b n k f e u v) : f_X5_isFour N (116 : Int32) (101 : Int32) (114 : Int32) (109 : Int32) d = some (if WM b k f e 5 then 1 else 0) := by
  have z := mw4 (N := N) (some (0 : Int32)) (some 1) hT hM hF (wm_5 b k f e) (by decide) (by decide) (by decide) (by decide)
  unfold f_X5_isFour
  refine Eq.trans z ?_
  split <;> rfl
theorem mq_6 (hT : BTm b n d) (hM : MS d k f e v) (hF : TF b n k f e u v) : f_X5_isFive N (99 : Int32) (104 : Int32) (105 : Int32) (108 : Int32) (100 : Int32) d = some (if WM b k f e 6 then 1 else 0) := by
  have z := mw5 (N := N) (some (0 : Int32)) (some 1) hT hM hF (wm_6 b k f e) (by decide) (by decide) (by decide) (by decide) (by decide)
  unfold f_X5_isFive
  refine Eq.trans z ?_
  split <;> rfl
theorem mq_8 (hT : BTm b n d) (hM : MS d k f e v) (hF : TF b n k f e u v) : f_X5_isFive N (99 : Int32) (111 : Int32) (115 : Int32) (116 : Int32) (115 : Int32) d = some (if WM b k f e 8 then 1 else 0) := by
  have z := mw5 (N := N) (some (0 : Int32)) (some 1) hT hM hF (wm_8 b k f e) (by decide) (by decide) (by decide) (by decide) (by decide)
  unfold f_X5_isFive
  refine Eq.trans z ?_
  split <;> rfl
def kdv (b : Nat → Nat) (k f e : Nat) : Nat := if WM b k f e 14 then 1 else if WM b k f e 9 then 2 else if WM b k f e 10 then 3 else if WM b k f e 11 then 4 else if WM b k f e 12 then 5 else if WM b k f e 13 then 6 else 0
theorem m_kindHere (hT : BTm b n d) (hM : MS d k f e v) (hF : TF b n k f e u v) : f_X5_kindHere N d = some (enc (kdv b k f e)) := by
  have z14 := mw6 (N := N) (f_X5_kindHere_J39 N d) (some (0 : Int32)) hT hM hF (wm_14 b k f e) (by decide) (by decide) (by decide) (by decide) (by decide) (by decide)
  have z9 := mw6 (N := N) (f_X5_kindHere_J78 N d) (some (1 : Int32)) hT hM hF (wm_9 b k f e) (by decide) (by decide) (by decide) (by decide) (by decide) (by decide)
  have z10 := mw7 (N := N) (f_X5_kindHere_J131 N d) (some (2 : Int32)) hT hM hF (wm_10 b k f e) (by decide) (by decide) (by decide) (by decide) (by decide) (by decide) (by decide)
  have z11 := mw3 (N := N) (f_X5_kindHere_J155 N d) (some (3 : Int32)) hT hM hF (wm_11 b k f e) (by decide) (by decide) (by decide)
  have z12 := mw5 (N := N) (f_X5_kindHere_J193 N d) (some (4 : Int32)) hT hM hF (wm_12 b k f e) (by decide) (by decide) (by decide) (by decide) (by decide)
  have z13 := mw4 (N := N) (some (-1 : Int32)) (some (5 : Int32)) hT hM hF (wm_13 b k f e) (by decide) (by decide) (by decide) (by decide)
  have j193 : f_X5_kindHere_J193 N d = if WM b k f e 13 then some 5 else some (-1) := z13
  have j155 : f_X5_kindHere_J155 N d = if WM b k f e 12 then some 4 else f_X5_kindHere_J193 N d := z12
  have j131 : f_X5_kindHere_J131 N d = if WM b k f e 11 then some 3 else f_X5_kindHere_J155 N d := z11
  have j78 : f_X5_kindHere_J78 N d = if WM b k f e 10 then some 2 else f_X5_kindHere_J131 N d := z10
  have j39 : f_X5_kindHere_J39 N d = if WM b k f e 9 then some 1 else f_X5_kindHere_J78 N d := z9
  have j0 : f_X5_kindHere N d = if WM b k f e 14 then some 0 else f_X5_kindHere_J39 N d := z14
  rw [j0, j39, j78, j131, j155, j193]
  unfold kdv
  cases WM b k f e 14 <;> cases WM b k f e 9 <;> cases WM b k f e 10 <;> cases WM b k f e 11 <;> cases WM b k f e 12 <;> cases WM b k f e 13 <;> rfl
theorem kdv_le (b : Nat → Nat) (k f e : Nat) : kdv b k f e ≤ 6 := by
  unfold kdv
  cases WM b k f e 14 <;> cases WM b k f e 9 <;> cases WM b k f e 10 <;> cases WM b k f e 11 <;> cases WM b k f e 12 <;> cases WM b k f e 13 <;> decide
end MWORD
section XKIND
variable {N : Nat} {b : Nat → Nat} {n : Nat} {T : TD} {k f e v u : Nat}
theorem x_kind_st (hN : 5000 ≤ N) (hT : BTx b n T) {s g : Int32} (hF : TF b n k f e u v) {j w q : Nat} (hj : j ≤ 5) (hw : w < 15) (hnm : f_X2_nameOf N (nI j) = some w) : f_X2_kindHere_L2 N ((T, nI k, nI f, nI e, s, g) : RD) (q + 1) (nI j) = if WM b k f e w then some (nI j) else f_X2_kindHere_L2 N ((T, nI k, nI f, nI e, s, g) : RD) q (nI (j + 1)) := by
  obtain ⟨t1, t2, t3, -⟩ := hF
  have ck' : ckw w = some () := by unfold ckw; rw [if_pos hw]
  rw [f_X2_kindHere_L2, if_neg (show ¬ (5 : Int32) < nI j from nI_nlt (show j ≤ 5 by omega) (by decide)), hnm, some_bind', ck', some_bind', x_word hN hT hw t3 t1 t2, some_bind', if10, lt_eq, nI_1]
theorem x_kindHere (hN : 5000 ≤ N) (hT : BTx b n T) {s g : Int32} (hF : TF b n k f e u v) : f_X2_kindHere N ((T, nI k, nI f, nI e, s, g) : RD) = some (enc (kdv b k f e)) := by
  have en : ∀ q, f_X2_kindHere_L2 N ((T, nI k, nI f, nI e, s, g) : RD) (q + 1) (nI 6) = some (-1) := fun q => by
    rw [f_X2_kindHere_L2, if_pos (show (5 : Int32) < nI 6 from nI_lt (show 5 < 6 by decide) (by decide))]
  have go : ∀ q, f_X2_kindHere_L2 N ((T, nI k, nI f, nI e, s, g) : RD) (q + 7) (nI 0) = some (enc (kdv b k f e)) := fun q => by
    rw [x_kind_st hN hT hF (j := 0) (w := 14) (q := q + 6) (by decide) (by decide) rfl, x_kind_st hN hT hF (j := 1) (w := 9) (q := q + 5) (by decide) (by decide) rfl, x_kind_st hN hT hF (j := 2) (w := 10) (q := q + 4) (by decide) (by decide) rfl, x_kind_st hN hT hF (j := 3) (w := 11) (q := q + 3) (by decide) (by decide) rfl, x_kind_st hN hT hF (j := 4) (w := 12) (q := q + 2) (by decide) (by decide) rfl, x_kind_st hN hT hF (j := 5) (w := 13) (q := q + 1) (by decide) (by decide) rfl, en q]
    unfold kdv
    cases WM b k f e 14 <;> cases WM b k f e 9 <;> cases WM b k f e 10 <;> cases WM b k f e 11 <;> cases WM b k f e 12 <;> cases WM b k f e 13 <;> rfl
  unfold f_X2_kindHere
  have z := go (N - 7)
  rw [show N - 7 + 7 = N by omega] at z
  exact z
theorem x_takes (hN : 5000 ≤ N) (hT : BTx b n T) {s : Int32} (hF : TF b n k f e u v) {w : Nat} (hw : w < 15) : f_X2_takesWord N w ((T, nI k, nI f, nI e, s, 0) : RD) = if WM b k f e w then some (1, ((T, nI (nk b n e), nI (nf b n e), nI (ne' b n e), nI (nu b n e), 0) : RD)) else some (0, ((T, nI k, nI f, nI e, s, 0) : RD)) := by
  obtain ⟨t1, t2, t3, -⟩ := hF
  unfold f_X2_takesWord
  rw [rg_faulty, if_pos rfl, x_word hN hT hw t3 t1 t2, some_bind', if10, x_next hN hT t2, some_bind']
theorem x_takesF {r : RD} (h : r_isFaulty r = 1) (w : Nat) : f_X2_takesWord N w r = some (0, r) := by
  unfold f_X2_takesWord
  rw [h, if_neg (by decide)]
theorem vn_in {u v lo h1 : Nat} (h : VN u v) (hh : h1 ≤ 1000000000) : (lo ≤ u ∧ u < h1 ↔ lo ≤ v ∧ v < h1) ∧ (u < h1 → u = v) := by
  unfold VN at h
  constructor
  · constructor <;> intro z <;> omega
  · intro z; omega
theorem x_num (hN : 5000 ≤ N) (hT : BTx b n T) (hF : TF b n k f e u v) {lo h1 : Nat} {H : Int32} (hH : H.toInt = (h1 : Int) - 1) (hh : h1 ≤ 1000000000) (hlo : lo ≤ 10) : f_X2_takeNumber N (nI lo) H ((T, nI k, nI f, nI e, nI u, 0) : RD) = if k = 2 ∧ lo ≤ v ∧ v < h1 then some (nI v, ((T, nI (nk b n e), nI (nf b n e), nI (ne' b n e), nI (nu b n e), 0) : RD)) else some (-1, ((T, nI k, nI f, nI e, nI u, 1) : RD)) := by
  obtain ⟨t1, t2, t3, t4, t5, t6⟩ := hF
  obtain ⟨w1, w2⟩ := vn_in (lo := lo) t6 hh
  have ub : u ≤ 1000000000 := by unfold VN at t6; omega
  unfold f_X2_takeNumber
  rw [rg_token, rg_number, x_in, some_bind', if10, lt_eq, x_next hN hT t2, some_bind', lt_eq, rt_faulty]
  have ec : (nI lo ≤ nI u ∧ nI u ≤ H) ↔ (lo ≤ u ∧ u < h1) := by
    rw [fa_le', fa_le', hH, nI_toInt (by omega), nI_toInt (by omega)]
    omega
  by_cases c1 : k = 2
  · rw [if_pos (by rw [c1]; rfl)]
    by_cases c2 : lo ≤ v ∧ v < h1
    · have c3 := w1.mpr c2
      rw [if_pos (ec.mpr c3), if_pos ⟨c1, c2⟩, w2 c3.2]
    · rw [if_neg (fun z => c2 (w1.mp (ec.mp z))), if_neg (fun z => c2 z.2)]
  · rw [if_neg (by rw [lit_nI 2, nI_eq_iff (by omega) (by decide)]; exact c1), if_neg (fun z => c1 z.1)]
end XKIND
section MNUM
variable {N : Nat} {b : Nat → Nat} {n : Nat} {d : MD} {k f e v u : Nat}
def KB (d d' : MD) : Prop := m_before d' = m_before d ∧ KR d d'
theorem KT.kb {d d' : MD} (h : KT d d') : KB d d' := ⟨h.2.1, h.2.2⟩
theorem KB.rf (d : MD) : KB d d := ⟨rfl, KR.rf d⟩
theorem KB.tr {d e f : MD} (h : KB d e) (k : KB e f) : KB d f := ⟨k.1.trans h.1, h.2.tr k.2⟩
theorem KB.s (d : MD) (s) : KB d (m_set_s d s) := ⟨rfl, KR.s d s⟩
theorem BTm.kb {d d' : MD} (h : BTm b n d) (k : KB d d') : BTm b n d' := by
  obtain ⟨h1, h2, h3⟩ := h
  obtain ⟨-, -, -, -, k4, k5, -⟩ := k
  refine ⟨h1, k5.trans h2, fun i hi => ⟨(h3 i hi).1, ?_⟩⟩
  rw [k4]
  exact (h3 i hi).2
theorem m_fails (hM : MS d k f e v) : f_X5_fails N d = some (0, m_set_faultAt d (nI f)) := by
  unfold f_X5_fails
  rw [lt_eq, hM.2.1]
theorem m_num (hN : 5000 ≤ N) (hT : BTm b n d) (hM : MS d k f e v) (hF : TF b n k f e u v) {at' lo h1 : Nat} {H : Int32} (hat : at' < 201) (hH : H.toInt = (h1 : Int) - 1) (hh : h1 ≤ 1000000000) (hlo : lo ≤ 10) :
    (k = 2 ∧ lo ≤ v ∧ v < h1 → ∃ d', f_X5_comesTo N (nI at') (nI lo) H d = some (1, d') ∧ m_s d' = upd (m_s d) at' (nI v) ∧ KB d d' ∧ MS d' (nk b n e) (nf b n e) (ne' b n e) (nv b n e)) ∧ (¬ (k = 2 ∧ lo ≤ v ∧ v < h1) → f_X5_comesTo N (nI at') (nI lo) H d = some (0, m_set_faultAt d (nI f))) := by
  obtain ⟨t1, t2, t3, t4, t5, t6⟩ := hF
  have vb : v ≤ 2000000000 := by unfold VN at t6; omega
  have ec : (nI lo ≤ nI v ∧ nI v ≤ H) ↔ (lo ≤ v ∧ v < h1) := by
    rw [fa_le', fa_le', hH, nI_toInt (by omega), nI_toInt (by omega)]
    omega
  have ckz0 : ckz 0 = some () := rfl
  unfold f_X5_comesTo
  rw [hM.1, hM.2.2.2, m_in N (nI v) (nI lo) H rfl rfl, some_bind', if10, m_fails hM, bd2_some, ckz0, some_bind']
  constructor
  · intro c
    rw [if_pos (by rw [c.1]; rfl), if_pos (ec.mpr c.2), ck_nI hat (by decide), some_bind', lt_eq, nI_clamp (by omega)]
    have z1 : KB d (m_set_s d (upd (m_s d) at' (nI v))) := KB.s _ _
    have z2 : m_s (m_set_s d (upd (m_s d) at' (nI v))) = upd (m_s d) at' (nI v) := rfl
    have z3 : m_to (m_set_s d (upd (m_s d) at' (nI v))) = nI e := hM.2.2.1
    generalize m_set_s d (upd (m_s d) at' (nI v)) = d1 at z1 z2 z3 ⊢
    obtain ⟨d', q1, q2, q3⟩ := m_next hN t2 (hT.kb z1) z3
    rw [q1, some_bind']
    exact ⟨d', rfl, q2.1.trans z2, z1.tr q2.kb, q3⟩
  · intro c
    by_cases c1 : k = 2
    · rw [if_pos (by rw [c1]; rfl), if_neg (fun z => c ⟨c1, ec.mp z⟩)]
    · rw [if_neg (by rw [lit_nI 2, nI_eq_iff (by omega) (by decide)]; exact c1)]
end MNUM
