/-! ===== single changes: the row, the valley ===== -/
theorem va_up_s {α : Type} (f : Nat → α) (k : Nat) (x : α) : va_up f k x k = x := by unfold va_up; rw [if_pos rfl]
theorem va_up_n {α : Type} (f : Nat → α) {k j : Nat} (x : α) (h : j ≠ k) : va_up f k x j = f j := by unfold va_up; rw [if_neg h]
section UPD
variable {a : AS} {s : Nat → Int32} {v : VD}
theorem SR.kd (h : SR a s) {i : Nat} (x : Nat) (hi : i < a_n a) : SR (a_set_kd a (va_up (a_kd a) i x)) (upd s (21 + 15 * i) (nI x)) := by
  obtain ⟨h1, h2, h3, h4, h5⟩ := h
  refine ⟨(pk_un (by omega)).trans h1, (pk_un (by omega)).trans h2, (pk_un (by omega)).trans h3, fun m hm => ⟨(pk_un (by omega)).trans (h4 m hm).1, (pk_un (by omega)).trans (h4 m hm).2⟩, fun k hk => ?_⟩
  obtain ⟨q0, q1, q2, q3, q4, q5, q6⟩ := h5 k hk
  by_cases c : k = i
  · subst c
    exact ⟨(pk_us).trans (by show nI x = nI (va_up (a_kd a) k x k); rw [va_up_s]), (pk_un (by omega)).trans q1, (pk_un (by omega)).trans q2, (pk_un (by omega)).trans q3, (pk_un (by omega)).trans q4, (pk_un (by omega)).trans q5, fun m hm => (pk_un (by omega)).trans (q6 m hm)⟩
  · exact ⟨(pk_un (by omega)).trans (q0.trans (by show nI (a_kd a k) = nI (va_up (a_kd a) i x k); rw [va_up_n _ x c])), (pk_un (by omega)).trans q1, (pk_un (by omega)).trans q2, (pk_un (by omega)).trans q3, (pk_un (by omega)).trans q4, (pk_un (by omega)).trans q5, fun m hm => (pk_un (by omega)).trans (q6 m hm)⟩
theorem SR.ag (h : SR a s) {i : Nat} (x : Nat) (hi : i < a_n a) : SR (a_set_ag a (va_up (a_ag a) i x)) (upd s (21 + 15 * i + 1) (nI x)) := by
  obtain ⟨h1, h2, h3, h4, h5⟩ := h
  refine ⟨(pk_un (by omega)).trans h1, (pk_un (by omega)).trans h2, (pk_un (by omega)).trans h3, fun m hm => ⟨(pk_un (by omega)).trans (h4 m hm).1, (pk_un (by omega)).trans (h4 m hm).2⟩, fun k hk => ?_⟩
  obtain ⟨q0, q1, q2, q3, q4, q5, q6⟩ := h5 k hk
  by_cases c : k = i
  · subst c
    exact ⟨(pk_un (by omega)).trans q0, (pk_us).trans (by show nI x = nI (va_up (a_ag a) k x k); rw [va_up_s]), (pk_un (by omega)).trans q2, (pk_un (by omega)).trans q3, (pk_un (by omega)).trans q4, (pk_un (by omega)).trans q5, fun m hm => (pk_un (by omega)).trans (q6 m hm)⟩
  · exact ⟨(pk_un (by omega)).trans q0, (pk_un (by omega)).trans (q1.trans (by show nI (a_ag a k) = nI (va_up (a_ag a) i x k); rw [va_up_n _ x c])), (pk_un (by omega)).trans q2, (pk_un (by omega)).trans q3, (pk_un (by omega)).trans q4, (pk_un (by omega)).trans q5, fun m hm => (pk_un (by omega)).trans (q6 m hm)⟩
theorem SR.gd (h : SR a s) {i : Nat} (x : Nat) (hi : i < a_n a) : SR (a_set_gd a (va_up (a_gd a) i x)) (upd s (21 + 15 * i + 2) (nI x)) := by
  obtain ⟨h1, h2, h3, h4, h5⟩ := h
  refine ⟨(pk_un (by omega)).trans h1, (pk_un (by omega)).trans h2, (pk_un (by omega)).trans h3, fun m hm => ⟨(pk_un (by omega)).trans (h4 m hm).1, (pk_un (by omega)).trans (h4 m hm).2⟩, fun k hk => ?_⟩
  obtain ⟨q0, q1, q2, q3, q4, q5, q6⟩ := h5 k hk
  by_cases c : k = i
  · subst c
    exact ⟨(pk_un (by omega)).trans q0, (pk_un (by omega)).trans q1, (pk_us).trans (by show nI x = nI (va_up (a_gd a) k x k); rw [va_up_s]), (pk_un (by omega)).trans q3, (pk_un (by omega)).trans q4, (pk_un (by omega)).trans q5, fun m hm => (pk_un (by omega)).trans (q6 m hm)⟩
  · exact ⟨(pk_un (by omega)).trans q0, (pk_un (by omega)).trans q1, (pk_un (by omega)).trans (q2.trans (by show nI (a_gd a k) = nI (va_up (a_gd a) i x k); rw [va_up_n _ x c])), (pk_un (by omega)).trans q3, (pk_un (by omega)).trans q4, (pk_un (by omega)).trans q5, fun m hm => (pk_un (by omega)).trans (q6 m hm)⟩
theorem SR.tm (h : SR a s) {i : Nat} (x : Nat) (hi : i < a_n a) : SR (a_set_tm a (va_up (a_tm a) i x)) (upd s (21 + 15 * i + 3) (nI x)) := by
  obtain ⟨h1, h2, h3, h4, h5⟩ := h
  refine ⟨(pk_un (by omega)).trans h1, (pk_un (by omega)).trans h2, (pk_un (by omega)).trans h3, fun m hm => ⟨(pk_un (by omega)).trans (h4 m hm).1, (pk_un (by omega)).trans (h4 m hm).2⟩, fun k hk => ?_⟩
  obtain ⟨q0, q1, q2, q3, q4, q5, q6⟩ := h5 k hk
  by_cases c : k = i
  · subst c
    exact ⟨(pk_un (by omega)).trans q0, (pk_un (by omega)).trans q1, (pk_un (by omega)).trans q2, (pk_us).trans (by show nI x = nI (va_up (a_tm a) k x k); rw [va_up_s]), (pk_un (by omega)).trans q4, (pk_un (by omega)).trans q5, fun m hm => (pk_un (by omega)).trans (q6 m hm)⟩
  · exact ⟨(pk_un (by omega)).trans q0, (pk_un (by omega)).trans q1, (pk_un (by omega)).trans q2, (pk_un (by omega)).trans (q3.trans (by show nI (a_tm a k) = nI (va_up (a_tm a) i x k); rw [va_up_n _ x c])), (pk_un (by omega)).trans q4, (pk_un (by omega)).trans q5, fun m hm => (pk_un (by omega)).trans (q6 m hm)⟩
theorem SR.ch (h : SR a s) {i : Nat} (x : Nat) (hi : i < a_n a) : SR (a_set_ch a (va_up (a_ch a) i x)) (upd s (21 + 15 * i + 4) (enc x)) := by
  obtain ⟨h1, h2, h3, h4, h5⟩ := h
  refine ⟨(pk_un (by omega)).trans h1, (pk_un (by omega)).trans h2, (pk_un (by omega)).trans h3, fun m hm => ⟨(pk_un (by omega)).trans (h4 m hm).1, (pk_un (by omega)).trans (h4 m hm).2⟩, fun k hk => ?_⟩
  obtain ⟨q0, q1, q2, q3, q4, q5, q6⟩ := h5 k hk
  by_cases c : k = i
  · subst c
    exact ⟨(pk_un (by omega)).trans q0, (pk_un (by omega)).trans q1, (pk_un (by omega)).trans q2, (pk_un (by omega)).trans q3, (pk_us).trans (by show enc x = enc (va_up (a_ch a) k x k); rw [va_up_s]), (pk_un (by omega)).trans q5, fun m hm => (pk_un (by omega)).trans (q6 m hm)⟩
  · exact ⟨(pk_un (by omega)).trans q0, (pk_un (by omega)).trans q1, (pk_un (by omega)).trans q2, (pk_un (by omega)).trans q3, (pk_un (by omega)).trans (q4.trans (by show enc (a_ch a k) = enc (va_up (a_ch a) i x k); rw [va_up_n _ x c])), (pk_un (by omega)).trans q5, fun m hm => (pk_un (by omega)).trans (q6 m hm)⟩
theorem SR.lv (h : SR a s) {i : Nat} (b : Bool) (hi : i < a_n a) : SR (a_set_lv a (va_up (a_lv a) i b)) (upd s (21 + 15 * i + 5) (nI (if b then 1 else 0))) := by
  obtain ⟨h1, h2, h3, h4, h5⟩ := h
  refine ⟨(pk_un (by omega)).trans h1, (pk_un (by omega)).trans h2, (pk_un (by omega)).trans h3, fun m hm => ⟨(pk_un (by omega)).trans (h4 m hm).1, (pk_un (by omega)).trans (h4 m hm).2⟩, fun k hk => ?_⟩
  obtain ⟨q0, q1, q2, q3, q4, q5, q6⟩ := h5 k hk
  by_cases c : k = i
  · subst c
    exact ⟨(pk_un (by omega)).trans q0, (pk_un (by omega)).trans q1, (pk_un (by omega)).trans q2, (pk_un (by omega)).trans q3, (pk_un (by omega)).trans q4, (pk_us).trans (by show nI (if b then 1 else 0) = nI (if va_up (a_lv a) k b k then 1 else 0); rw [va_up_s]), fun m hm => (pk_un (by omega)).trans (q6 m hm)⟩
  · exact ⟨(pk_un (by omega)).trans q0, (pk_un (by omega)).trans q1, (pk_un (by omega)).trans q2, (pk_un (by omega)).trans q3, (pk_un (by omega)).trans q4, (pk_un (by omega)).trans (q5.trans (by show nI (if a_lv a k then 1 else 0) = nI (if va_up (a_lv a) i b k then 1 else 0); rw [va_up_n _ b c])), fun m hm => (pk_un (by omega)).trans (q6 m hm)⟩
theorem SR.wy (h : SR a s) {i m' : Nat} (x : Nat) (hi : i < a_n a) (hm' : m' < 9) : SR (setw a i m' x) (upd s (21 + 15 * i + (6 + m')) (nI x)) := by
  obtain ⟨h1, h2, h3, h4, h5⟩ := h
  refine ⟨(pk_un (by omega)).trans h1, (pk_un (by omega)).trans h2, (pk_un (by omega)).trans h3, fun m hm => ⟨(pk_un (by omega)).trans (h4 m hm).1, (pk_un (by omega)).trans (h4 m hm).2⟩, fun k hk => ?_⟩
  obtain ⟨q0, q1, q2, q3, q4, q5, q6⟩ := h5 k hk
  refine ⟨(pk_un (by omega)).trans q0, (pk_un (by omega)).trans q1, (pk_un (by omega)).trans q2, (pk_un (by omega)).trans q3, (pk_un (by omega)).trans q4, (pk_un (by omega)).trans q5, fun m hm => ?_⟩
  show _ = nI (va_up (a_wy a) i (va_up (a_wy a i) m' x) k m)
  by_cases c : k = i
  · subst c
    rw [va_up_s]
    by_cases c2 : m = m'
    · subst c2
      rw [va_up_s]
      exact pk_us
    · rw [va_up_n _ x c2]
      exact (pk_un (by omega)).trans (q6 m hm)
  · rw [va_up_n _ _ c]
    exact (pk_un (by omega)).trans (q6 m hm)
theorem SR.y (h : SR a s) (x : Nat) : SR (a_set_y a x) (upd s 1 (nI x)) := by
  obtain ⟨h1, h2, h3, h4, h5⟩ := h
  refine ⟨(pk_un (by omega)).trans h1, pk_us, (pk_un (by omega)).trans h3, fun m hm => ⟨(pk_un (by omega)).trans (h4 m hm).1, (pk_un (by omega)).trans (h4 m hm).2⟩, fun k hk => ?_⟩
  obtain ⟨q0, q1, q2, q3, q4, q5, q6⟩ := h5 k hk
  exact ⟨(pk_un (by omega)).trans q0, (pk_un (by omega)).trans q1, (pk_un (by omega)).trans q2, (pk_un (by omega)).trans q3, (pk_un (by omega)).trans q4, (pk_un (by omega)).trans q5, fun m hm => (pk_un (by omega)).trans (q6 m hm)⟩
theorem SR.l (h : SR a s) (x : Nat) : SR (a_set_l a x) (upd s 2 (nI x)) := by
  obtain ⟨h1, h2, h3, h4, h5⟩ := h
  refine ⟨(pk_un (by omega)).trans h1, (pk_un (by omega)).trans h2, pk_us, fun m hm => ⟨(pk_un (by omega)).trans (h4 m hm).1, (pk_un (by omega)).trans (h4 m hm).2⟩, fun k hk => ?_⟩
  obtain ⟨q0, q1, q2, q3, q4, q5, q6⟩ := h5 k hk
  exact ⟨(pk_un (by omega)).trans q0, (pk_un (by omega)).trans q1, (pk_un (by omega)).trans q2, (pk_un (by omega)).trans q3, (pk_un (by omega)).trans q4, (pk_un (by omega)).trans q5, fun m hm => (pk_un (by omega)).trans (q6 m hm)⟩
theorem SR.wt (h : SR a s) {m' : Nat} (x : Nat) (hm' : m' < 9) : SR (a_set_wt a (va_up (a_wt a) m' x)) (upd s (3 + m') (nI x)) := by
  obtain ⟨h1, h2, h3, h4, h5⟩ := h
  refine ⟨(pk_un (by omega)).trans h1, (pk_un (by omega)).trans h2, (pk_un (by omega)).trans h3, fun m hm => ⟨?_, (pk_un (by omega)).trans (h4 m hm).2⟩, fun k hk => ?_⟩
  · show _ = nI (va_up (a_wt a) m' x m)
    by_cases c : m = m'
    · subst c; rw [va_up_s]; exact pk_us
    · rw [va_up_n _ x c]; exact (pk_un (by omega)).trans (h4 m hm).1
  · obtain ⟨q0, q1, q2, q3, q4, q5, q6⟩ := h5 k hk
    exact ⟨(pk_un (by omega)).trans q0, (pk_un (by omega)).trans q1, (pk_un (by omega)).trans q2, (pk_un (by omega)).trans q3, (pk_un (by omega)).trans q4, (pk_un (by omega)).trans q5, fun m hm => (pk_un (by omega)).trans (q6 m hm)⟩
theorem SR.co (h : SR a s) {m' : Nat} (x : Nat) (hm' : m' < 9) : SR (a_set_co a (va_up (a_co a) m' x)) (upd s (12 + m') (nI x)) := by
  obtain ⟨h1, h2, h3, h4, h5⟩ := h
  refine ⟨(pk_un (by omega)).trans h1, (pk_un (by omega)).trans h2, (pk_un (by omega)).trans h3, fun m hm => ⟨(pk_un (by omega)).trans (h4 m hm).1, ?_⟩, fun k hk => ?_⟩
  · show _ = nI (va_up (a_co a) m' x m)
    by_cases c : m = m'
    · subst c; rw [va_up_s]; exact pk_us
    · rw [va_up_n _ x c]; exact (pk_un (by omega)).trans (h4 m hm).2
  · obtain ⟨q0, q1, q2, q3, q4, q5, q6⟩ := h5 k hk
    exact ⟨(pk_un (by omega)).trans q0, (pk_un (by omega)).trans q1, (pk_un (by omega)).trans q2, (pk_un (by omega)).trans q3, (pk_un (by omega)).trans q4, (pk_un (by omega)).trans q5, fun m hm => (pk_un (by omega)).trans (q6 m hm)⟩
end UPD
section INV
variable {a : AS}
theorem Inv.kd (h : Inv a) {i x : Nat} (hx : x ≤ 5) : Inv (a_set_kd a (va_up (a_kd a) i x)) := by
  refine ⟨h.1, h.2.1, h.2.2.1, h.2.2.2.1, fun k hk => ?_⟩
  obtain ⟨q0, q1, q2, q3, q4, q5, q6⟩ := h.2.2.2.2 k hk
  refine ⟨?_, q1, q2, q3, q4, q5, q6⟩
  show va_up (a_kd a) i x k ≤ 5
  by_cases c : k = i
  · rw [c, va_up_s]; exact hx
  · rw [va_up_n _ x c]; exact q0
theorem Inv.ag (h : Inv a) {i x : Nat} (hx : x ≤ 120) : Inv (a_set_ag a (va_up (a_ag a) i x)) := by
  refine ⟨h.1, h.2.1, h.2.2.1, h.2.2.2.1, fun k hk => ?_⟩
  obtain ⟨q0, q1, q2, q3, q4, q5, q6⟩ := h.2.2.2.2 k hk
  refine ⟨q0, ?_, q2, q3, q4, q5, q6⟩
  show va_up (a_ag a) i x k ≤ 120
  by_cases c : k = i
  · rw [c, va_up_s]; exact hx
  · rw [va_up_n _ x c]; exact q1
theorem Inv.gd (h : Inv a) {i x : Nat} (hx : x ≤ 999999) : Inv (a_set_gd a (va_up (a_gd a) i x)) := by
  refine ⟨h.1, h.2.1, h.2.2.1, h.2.2.2.1, fun k hk => ?_⟩
  obtain ⟨q0, q1, q2, q3, q4, q5, q6⟩ := h.2.2.2.2 k hk
  refine ⟨q0, q1, ?_, q3, q4, q5, q6⟩
  show va_up (a_gd a) i x k ≤ 999999
  by_cases c : k = i
  · rw [c, va_up_s]; exact hx
  · rw [va_up_n _ x c]; exact q2
theorem Inv.ch (h : Inv a) {i x : Nat} (hx : x ≤ a_n a) : Inv (a_set_ch a (va_up (a_ch a) i x)) := by
  refine ⟨h.1, h.2.1, h.2.2.1, h.2.2.2.1, fun k hk => ?_⟩
  obtain ⟨q0, q1, q2, q3, q4, q5, q6⟩ := h.2.2.2.2 k hk
  refine ⟨q0, q1, q2, q3, q4, ?_, q6⟩
  show va_up (a_ch a) i x k ≤ a_n a
  by_cases c : k = i
  · rw [c, va_up_s]; exact hx
  · rw [va_up_n _ x c]; exact q5
theorem Inv.tm (h : Inv a) {i x : Nat} (h1 : 1 ≤ x) (h2 : x ≤ 120) : Inv (a_set_tm a (va_up (a_tm a) i x)) := by
  refine ⟨h.1, h.2.1, h.2.2.1, h.2.2.2.1, fun k hk => ?_⟩
  obtain ⟨q0, q1, q2, q3, q4, q5, q6⟩ := h.2.2.2.2 k hk
  refine ⟨q0, q1, q2, ?_, ?_, q5, q6⟩
  · show 1 ≤ va_up (a_tm a) i x k
    by_cases c : k = i
    · rw [c, va_up_s]; exact h1
    · rw [va_up_n _ x c]; exact q3
  · show va_up (a_tm a) i x k ≤ 120
    by_cases c : k = i
    · rw [c, va_up_s]; exact h2
    · rw [va_up_n _ x c]; exact q4
theorem Inv.lv (h : Inv a) (f : Nat → Bool) : Inv (a_set_lv a f) := h
theorem Inv.wy (h : Inv a) {i m x : Nat} (hx : x ≤ 3) : Inv (setw a i m x) := by
  refine ⟨h.1, h.2.1, h.2.2.1, h.2.2.2.1, fun k hk => ?_⟩
  obtain ⟨q0, q1, q2, q3, q4, q5, q6⟩ := h.2.2.2.2 k hk
  refine ⟨q0, q1, q2, q3, q4, q5, fun m' hm' => ?_⟩
  show va_up (a_wy a) i (va_up (a_wy a i) m x) k m' ≤ 3
  by_cases c : k = i
  · subst c
    rw [va_up_s]
    by_cases c2 : m' = m
    · rw [c2, va_up_s]; exact hx
    · rw [va_up_n _ x c2]; exact q6 m' hm'
  · rw [va_up_n _ _ c]; exact q6 m' hm'
theorem Inv.y (h : Inv a) {x : Nat} (hx : x ≤ 9999) : Inv (a_set_y a x) := ⟨h.1, hx, h.2.2⟩
theorem Inv.l (h : Inv a) {x : Nat} (hx : x ≤ 2) : Inv (a_set_l a x) := ⟨h.1, h.2.1, hx, h.2.2.2⟩
theorem Inv.wt (h : Inv a) {m x : Nat} (hx : x ≤ 9) : Inv (a_set_wt a (va_up (a_wt a) m x)) := by
  refine ⟨h.1, h.2.1, h.2.2.1, fun m' hm' => ⟨?_, (h.2.2.2.1 m' hm').2⟩, h.2.2.2.2⟩
  show va_up (a_wt a) m x m' ≤ 9
  by_cases c : m' = m
  · rw [c, va_up_s]; exact hx
  · rw [va_up_n _ x c]; exact (h.2.2.2.1 m' hm').1
theorem Inv.co (h : Inv a) {m x : Nat} (hx : x ≤ 99) : Inv (a_set_co a (va_up (a_co a) m x)) := by
  refine ⟨h.1, h.2.1, h.2.2.1, fun m' hm' => ⟨(h.2.2.2.1 m' hm').1, ?_⟩, h.2.2.2.2⟩
  show va_up (a_co a) m x m' ≤ 99
  by_cases c : m' = m
  · rw [c, va_up_s]; exact hx
  · rw [va_up_n _ x c]; exact (h.2.2.2.1 m' hm').2
end INV
