/-! ===== what keeps the rest ===== -/
def KR (d d' : MD) : Prop := m_kept d' = m_kept d ∧ m_isKept d' = m_isKept d ∧ m_findings d' = m_findings d ∧ m_tape d' = m_tape d ∧ m_taped d' = m_taped d ∧ m_bitsOf d' = m_bitsOf d ∧ m_sizes d' = m_sizes d ∧ m_numbers d' = m_numbers d ∧ m_asked d' = m_asked d
theorem KM.kr {d d' : MD} (h : KM d d') : KR d d' := ⟨h.1, h.2.2.1, h.2.2.2.1, h.2.2.2.2.1, h.2.2.2.2.2.1, h.2.2.2.2.2.2.1, h.2.2.2.2.2.2.2.1, h.2.2.2.2.2.2.2.2.1, h.2.2.2.2.2.2.2.2.2⟩
theorem KR.rf (d : MD) : KR d d := ⟨rfl, rfl, rfl, rfl, rfl, rfl, rfl, rfl, rfl⟩
theorem KR.s (d : MD) (s) : KR d (m_set_s d s) := ⟨rfl, rfl, rfl, rfl, rfl, rfl, rfl, rfl, rfl⟩
theorem KR.c (d : MD) (s) : KR d (m_set_close d s) := ⟨rfl, rfl, rfl, rfl, rfl, rfl, rfl, rfl, rfl⟩
theorem KR.tr {d e f : MD} (h : KR d e) (k : KR e f) : KR d f := by
  obtain ⟨h1, h2, h3, h4, h5, h6, h7, h8, h9⟩ := h
  obtain ⟨k1, k2, k3, k4, k5, k6, k7, k8, k9⟩ := k
  exact ⟨k1.trans h1, k2.trans h2, k3.trans h3, k4.trans h4, k5.trans h5, k6.trans h6, k7.trans h7, k8.trans h8, k9.trans h9⟩
def KX (x x' : XD) : Prop := x_kept x' = x_kept x ∧ x_isKept x' = x_isKept x ∧ v_children (x_trial x') 12 = v_children (x_trial x) 12 ∧ r_tape (x_reader x') = r_tape (x_reader x) ∧ x_sheets x' = x_sheets x ∧ x_tally x' = x_tally x
theorem KX.rf (x : XD) : KX x x := ⟨rfl, rfl, rfl, rfl, rfl, rfl⟩
theorem KX.tr {x y z : XD} (h : KX x y) (k : KX y z) : KX x z := by
  obtain ⟨h1, h2, h3, h4, h5, h6⟩ := h
  obtain ⟨k1, k2, k3, k4, k5, k6⟩ := k
  exact ⟨k1.trans h1, k2.trans h2, k3.trans h3, k4.trans h4, k5.trans h5, k6.trans h6⟩
theorem KX.v (x : XD) (v : VD) : KX x (x_set_valley x v) := ⟨rfl, rfl, rfl, rfl, rfl, rfl⟩
theorem KX.t (x : XD) (v : VD) (h : v_children v 12 = v_children (x_trial x) 12) : KX x (x_set_trial x v) := ⟨rfl, rfl, h, rfl, rfl, rfl⟩
theorem Rest.go {x x' : XD} {m m' : MD} (h : Rest x m) (kx : KX x x') (km : KR m m') : Rest x' m' := by
  obtain ⟨h1, h2, h3, h4, h5, h6⟩ := h
  obtain ⟨x1, x2, x3, x4, x5, x6⟩ := kx
  obtain ⟨m1, m2, m3, m4, m5, m6, m7, m8, m9⟩ := km
  refine ⟨?_, x3.trans h2, ?_, ?_, ?_, m9.trans h6⟩
  · unfold KPR at h1 ⊢
    rw [x1, x2, m1, m2]
    exact h1
  · unfold TPR at h3 ⊢
    rw [x4, m4, m5]
    exact h3
  · intro t ht
    have z := h4 t ht
    unfold SHR at z ⊢
    rw [x5, m6, m7, m8]
    exact z
  · unfold TLR at h5 ⊢
    rw [x6, m3]
    exact h5
section TRY
variable {N : Nat} {x : XD} {m : MD} {a : AS}
theorem x_try (hI : Inv a) (hV : VR a (x_valley x)) : ∃ t, f_X3_takeFrom N (x_trial x) (x_valley x) = some t ∧ VR a t ∧ v_children t 12 = v_children (x_trial x) 12 := by
  obtain ⟨t, q1, q2, q3, -⟩ := v_take N hI hV (x_trial x)
  exact ⟨t, q1, q2, q3⟩
theorem m_lay (hN : 5000 ≤ N) (hI : Inv a) (hS : SR a (m_s m)) : ∃ d, f_X5_laysBy N m = some d ∧ SR a (m_s d) ∧ SR a (m_close d) ∧ KR m d ∧ m_s d = m_s m := by
  obtain ⟨s', q1, q2⟩ := m_by hN m
  exact ⟨_, q1, hS, SR_cong hI q2 hS, KR.c m s', rfl⟩
theorem m_unlay (hN : 5000 ≤ N) (hI : Inv a) (hS : SR a (m_close m)) : ∃ d, f_X5_laysBack N m = some d ∧ SR a (m_s d) ∧ KR m d ∧ m_close d = m_close m := by
  obtain ⟨s', q1, q2⟩ := m_back hN m
  exact ⟨_, q1, SR_cong hI q2 hS, KR.s m s', rfl⟩
theorem m_yrs (hN : 5000 ≤ N) (hI : Inv a) (hS : SR a (m_s m)) (hA : m_asked m = -1) {n : Nat} (hn : a_y a + n ≤ 9999) (h100 : n ≤ 100) : ∃ d, f_X5_goesOnMany N (nI n) m = some (nI (yearsD a n), d) ∧ SR (years a n) (m_s d) ∧ KR m d ∧ m_close d = m_close m := by
  obtain ⟨d, q1, q2, q3⟩ := m_years hN hI hS hn h100 (q := 0) (by omega) hA
  exact ⟨d, q1, q2, q3.kr, q3.2.1⟩
theorem ok_go {ρ : Type} {x' : XD} {m' : MD} {a' : AS} (hR : Rest x m) (r : ρ) (kx : KX x x') (km : KR m m') (hI : Inv a') (hS : SR a' (m_s m')) (hV : VR a' (x_valley x')) : Ok (some (r, x')) (some (r, m')) := ⟨r, x', m', rfl, rfl, a', hI, hS, hV, hR.go kx km⟩
theorem bad_go {x' : XD} {m' : MD} {a' : AS} (hR : Rest x m) (kx : KX x x') (km : KR m m') (hI : Inv a') (hS : SR a' (m_s m')) (hV : VR a' (x_valley x')) (c : Int32) (i : Nat) (hi : i < 7) (hc : (-1000000001 : Int32) - c = nI i) : Ok (bd2 (f_X4_tell N c x') fun r d => some (r, d)) (bd2 (f_X5_finds N c m') fun r d => some (r, d)) := ok_tell ⟨a', hI, hS, hV, hR.go kx km⟩ c i hi hc
end TRY
section OPS2
variable {N : Nat} {x : XD} {m : MD} {a : AS}
theorem not_range {p : Int32} {k : Nat} (hk : k < 1000) (h : ¬ (0 ≤ p ∧ p ≤ nI k)) {j : Nat} (hj : j ≤ k) : ¬ p = nI j := fun e => h (by rw [e]; exact ⟨nI_pos' (by omega), nI_le hj (by omega)⟩)
theorem op_of (hN : 5000 ≤ N) (h : Sys x m) (p1 p2 : Int32) : Ok (f_X4_of N p1 p2 x) (f_X5_of N p1 p2 m) := by
  have hh := h
  obtain ⟨a, hI, hS, hV, hR⟩ := h
  have hn := hI.1
  have bad : Ok (bd2 (f_X4_tell N (-1000000001) x) fun r d => some (r, d)) (bd2 (f_X5_finds N (-1000000001) m) fun r d => some (r, d)) := ok_tell hh _ 0 (by decide) (by decide)
  simp only [f_X4_of, f_X5_of, x_one hI hV, m_one hI hS, mi_0_6, some_bind', if10]
  by_cases c1 : isP (a_n a) p1
  · simp only [if_pos c1]
    obtain ⟨i, hi, rfl⟩ := isP_nat hn c1
    have q := hV.2.2.2.2.2.2 i hi
    by_cases c2 : 0 ≤ p2 ∧ p2 ≤ 6
    · simp only [if_pos c2]
      obtain ⟨j, hj, rfl⟩ := in_nat (m := 6) (by decide) c2
      have hj7 : j = 0 ∨ j = 1 ∨ j = 2 ∨ j = 3 ∨ j = 4 ∨ j = 5 ∨ j = 6 := by omega
      rcases hj7 with rfl | rfl | rfl | rfl | rfl | rfl | rfl
      · rw [if_pos (show nI 0 = (0 : Int32) from rfl), if_neg (show ¬ nI 0 = 6 by decide), rd_nI (by omega) (by decide), some_bind', q.1, show nI 0 = (0 : Int32) from rfl, m_kd hI hS hi, some_bind']
        exact ok_same hh _
      · rw [if_neg (show ¬ nI 1 = 0 by decide), if_pos (show nI 1 = (1 : Int32) from rfl), if_neg (show ¬ nI 1 = 6 by decide), rd_nI (by omega) (by decide), some_bind', q.2.1, show nI 1 = (1 : Int32) from rfl, m_ag hI hS hi, some_bind']
        exact ok_same hh _
      · rw [if_neg (show ¬ nI 2 = 0 by decide), if_neg (show ¬ nI 2 = 1 by decide), if_pos (show nI 2 = (2 : Int32) from rfl), if_neg (show ¬ nI 2 = 6 by decide), rd_nI (by omega) (by decide), some_bind', q.2.2.1, show nI 2 = (2 : Int32) from rfl, m_gd hI hS hi, some_bind']
        exact ok_same hh _
      · rw [if_neg (show ¬ nI 3 = 0 by decide), if_neg (show ¬ nI 3 = 1 by decide), if_neg (show ¬ nI 3 = 2 by decide), if_pos (show nI 3 = (3 : Int32) from rfl), if_neg (show ¬ nI 3 = 6 by decide), rd_nI (by omega) (by decide), some_bind', q.2.2.2.1, show nI 3 = (3 : Int32) from rfl, m_tm hI hS hi, some_bind']
        exact ok_same hh _
      · rw [if_neg (show ¬ nI 4 = 0 by decide), if_neg (show ¬ nI 4 = 1 by decide), if_neg (show ¬ nI 4 = 2 by decide), if_neg (show ¬ nI 4 = 3 by decide), if_pos (show nI 4 = (4 : Int32) from rfl), if_neg (show ¬ nI 4 = 6 by decide), rd_nI (by omega) (by decide), some_bind', q.2.2.2.2.1, show nI 4 = (4 : Int32) from rfl, m_ch hI hS hi, some_bind']
        exact ok_same hh _
      · rw [if_neg (show ¬ nI 5 = 0 by decide), if_neg (show ¬ nI 5 = 1 by decide), if_neg (show ¬ nI 5 = 2 by decide), if_neg (show ¬ nI 5 = 3 by decide), if_neg (show ¬ nI 5 = 4 by decide), if_pos (show nI 5 = (5 : Int32) from rfl), if_neg (show ¬ nI 5 = 6 by decide), v_lives hI hV hi, some_bind', show nI 5 = (5 : Int32) from rfl, m_lv hI hS hi, some_bind']
        cases a_lv a i
        · exact ok_same hh 0
        · exact ok_same hh 1
      · rw [if_neg (show ¬ nI 6 = 0 by decide), if_neg (show ¬ nI 6 = 1 by decide), if_neg (show ¬ nI 6 = 2 by decide), if_neg (show ¬ nI 6 = 3 by decide), if_neg (show ¬ nI 6 = 4 by decide), if_neg (show ¬ nI 6 = 5 by decide), if_pos (show nI 6 = (6 : Int32) from rfl), if_pos (show nI 6 = (6 : Int32) from rfl), v_aim hN hI hV hi, some_bind', m_aim hN hI hS hi, some_bind']
        exact ok_same hh _
    · simp only [if_neg c2]
      have c2 : ¬ (0 ≤ p2 ∧ p2 ≤ nI 6) := c2
      rw [if_neg (show ¬ p2 = 0 from not_range (by decide) c2 (j := 0) (by decide)), if_neg (show ¬ p2 = 1 from not_range (by decide) c2 (j := 1) (by decide)), if_neg (show ¬ p2 = 2 from not_range (by decide) c2 (j := 2) (by decide)), if_neg (show ¬ p2 = 3 from not_range (by decide) c2 (j := 3) (by decide)), if_neg (show ¬ p2 = 4 from not_range (by decide) c2 (j := 4) (by decide)), if_neg (show ¬ p2 = 5 from not_range (by decide) c2 (j := 5) (by decide)), if_neg (show ¬ p2 = 6 from not_range (by decide) c2 (j := 6) (by decide))]
      exact bad
  · simp only [if_neg c1]; exact bad
theorem op_set (hN : 5000 ≤ N) (h : Sys x m) (p1 p2 p3 : Int32) : Ok (f_X4_set N p1 p2 p3 x) (f_X5_set N p1 p2 p3 m) := by
  have hh := h
  obtain ⟨a, hI, hS, hV, hR⟩ := h
  have hn := hI.1
  have bad : Ok (bd2 (f_X4_tell N (-1000000001) x) fun r d => some (r, d)) (bd2 (f_X5_finds N (-1000000001) m) fun r d => some (r, d)) := ok_tell hh _ 0 (by decide) (by decide)
  simp only [f_X4_set, f_X5_set, f_X4_maySet, f_X5_mayBe, x_one hI hV, m_one hI hS, x_in, mi_0_120, mi_0_999999, mi_1_120, mi_0_1, x_two hI hV, m_two hI hS, some_bind', ckz10, if10]
  by_cases c1 : isP (a_n a) p1
  · simp only [if_pos c1]
    obtain ⟨i, hi, rfl⟩ := isP_nat hn c1
    have q := hV.2.2.2.2.2.2 i hi
    have r := hS.2.2.2.2 i hi
    by_cases c21 : p2 = 1
    · subst c21
      simp only [if_true, some_bind', if10]
      by_cases c3 : 0 ≤ p3 ∧ p3 ≤ 120
      · simp only [if_pos c3]
        obtain ⟨j, hj, rfl⟩ := in_nat (m := 120) (by decide) c3
        rw [x_exch N (show i < 12 by omega) (by decide), bd2_some, lt_eq, m_becomes N m (p := ((21 : Int32) + ((15 : Int32) * nI i)) + 1) (k := 21 + 15 * i + 1) (ix_nI i 1) (by omega), bd2_some, q.2.1, r.2.1]
        exact ok_val hR _ (hI.ag hj) (hS.ag j hi) (hV.ag j)
      · simp only [if_neg c3]; exact bad
    simp only [if_neg c21]
    by_cases c22 : p2 = 2
    · subst c22
      simp only [if_true, if_neg (show ¬ (2 : Int32) = 1 by decide), some_bind', if10]
      by_cases c3 : 0 ≤ p3 ∧ p3 ≤ 999999
      · simp only [if_pos c3]
        obtain ⟨j, hj, rfl⟩ := in_nat (m := 999999) (by decide) c3
        rw [x_exch N (show i < 12 by omega) (by decide), bd2_some, lt_eq, m_becomes N m (p := ((21 : Int32) + ((15 : Int32) * nI i)) + 2) (k := 21 + 15 * i + 2) (ix_nI i 2) (by omega), bd2_some, q.2.2.1, r.2.2.1]
        exact ok_val hR _ (hI.gd hj) (hS.gd j hi) (hV.gd j)
      · simp only [if_neg c3]; exact bad
    simp only [if_neg c22]
    by_cases c23 : p2 = 3
    · subst c23
      simp only [if_true, if_neg (show ¬ (3 : Int32) = 1 by decide), if_neg (show ¬ (3 : Int32) = 2 by decide), some_bind', if10]
      by_cases c3 : 1 ≤ p3 ∧ p3 ≤ 120
      · simp only [if_pos c3]
        obtain ⟨j, hj, rfl⟩ := in_nat (m := 120) (by decide) ⟨by have := c3.1; rw [fa_le'] at this ⊢; exact Int.le_trans (by decide) this, c3.2⟩
        have hj1 : 1 ≤ j := (nI_leI (a := 1) (by decide) (by omega)).mp c3.1
        rw [x_exch N (show i < 12 by omega) (by decide), bd2_some, lt_eq, m_becomes N m (p := ((21 : Int32) + ((15 : Int32) * nI i)) + 3) (k := 21 + 15 * i + 3) (ix_nI i 3) (by omega), bd2_some, q.2.2.2.1, r.2.2.2.1]
        exact ok_val hR _ (hI.tm hj1 hj) (hS.tm j hi) (hV.tm j)
      · simp only [if_neg c3]; exact bad
    simp only [if_neg c23]
    by_cases c24 : p2 = 4
    · subst c24
      simp only [if_true, if_neg (show ¬ (4 : Int32) = 1 by decide), if_neg (show ¬ (4 : Int32) = 2 by decide), if_neg (show ¬ (4 : Int32) = 3 by decide)]
      by_cases c3 : p3 = -1
      · subst c3
        simp only [if_true, some_bind', if_neg (show ¬ (1 : Int32) = 0 by decide)]
        rw [x_exch N (show i < 13 by omega) (by decide), bd2_some, lt_eq, m_becomes N m (p := ((21 : Int32) + ((15 : Int32) * nI i)) + 4) (k := 21 + 15 * i + 4) (ix_nI i 4) (by omega), bd2_some, q.2.2.2.2.1, r.2.2.2.2.1]
        exact ok_val hR _ (hI.ch (x := 0) (by omega)) (hS.ch 0 hi) (hV.ch 0)
      · simp only [if_neg c3]
        by_cases c4 : are2 (a_n a) (nI i) p3
        · simp only [if_pos c4, some_bind', if_neg (show ¬ (1 : Int32) = 0 by decide)]
          obtain ⟨j, hj, rfl⟩ := isP_nat hn c4.2.1
          rw [x_exch N (show i < 13 by omega) (by decide), bd2_some, lt_eq, m_becomes N m (p := ((21 : Int32) + ((15 : Int32) * nI i)) + 4) (k := 21 + 15 * i + 4) (ix_nI i 4) (by omega), bd2_some, q.2.2.2.2.1, r.2.2.2.2.1, ← enc_s j]
          exact ok_val hR _ (hI.ch (x := j + 1) (by omega)) (hS.ch (j + 1) hi) (hV.ch (j + 1))
        · simp only [if_neg c4, some_bind', if_true]; exact bad
    simp only [if_neg c24]
    by_cases c25 : p2 = 5
    · subst c25
      simp only [if_true, some_bind', if10, if_neg (show ¬ (5 : Int32) = 1 by decide), if_neg (show ¬ (5 : Int32) = 2 by decide), if_neg (show ¬ (5 : Int32) = 3 by decide), if_neg (show ¬ (5 : Int32) = 4 by decide)]
      by_cases c3 : 0 ≤ p3 ∧ p3 ≤ 1
      · simp only [if_pos c3]
        obtain ⟨j, hj, rfl⟩ := in_nat (m := 1) (by decide) c3
        unfold f_X3_putLiving
        rw [lt_eq, lt_eq, bd2_some, lt_eq, m_becomes N m (p := ((21 : Int32) + ((15 : Int32) * nI i)) + 5) (k := 21 + 15 * i + 5) (ix_nI i 5) (by omega), bd2_some, r.2.2.2.2.2.1, b_sft _ i (by omega), hV.2.2.2.2.1 i, decide_eq_true hi, Bool.true_and]
        have e : (if a_lv a i then (1 : Int32) else 0) = nI (if a_lv a i then 1 else 0) := by cases a_lv a i <;> rfl
        rw [e]
        have ej : nI j = nI (if decide (j = 1) then 1 else 0) := by
          have : j = 0 ∨ j = 1 := by omega
          rcases this with rfl | rfl <;> rfl
        have sr := hS.lv (decide (j = 1)) hi
        rw [← ej] at sr
        refine ok_val hR _ (hI.lv (va_up (a_lv a) i (decide (j = 1)))) sr (hV.lv (fun k => ?_))
        have hbits : ∀ k, k < 32 → bt (nI j <<< (nI i &&& 31)) k = (decide (k = i) && decide (j = 1)) := by
          intro k hk
          have : j = 0 ∨ j = 1 := by omega
          rcases this with rfl | rfl
          · rw [shl0 i (by omega), b_0]; simp
          · exact (b_pow i (by omega) hk).trans (by simp)
        rcases Nat.lt_or_ge k 32 with hk | hk
        · rw [b_or, b_clr _ i (by omega), hbits k hk, hV.2.2.2.2.1 k]
          by_cases c : k = i
          · subst c; rw [va_up_s]; simp [hi]
          · rw [va_up_n _ _ c]; simp [c]
        · rw [b_big hk, decide_eq_false (show ¬ k < a_n a by omega), Bool.false_and]
      · simp only [if_neg c3]; exact bad
    simp only [if_neg c25, some_bind', if_true]
    exact bad
  · simp only [if_neg c1]; exact bad
theorem op_way (h : Sys x m) (p1 p2 : Int32) : Ok (f_X4_way N p1 p2 x) (f_X5_way N p1 p2 m) := by
  have hh := h
  obtain ⟨a, hI, hS, hV, hR⟩ := h
  have hn := hI.1
  have bad : Ok (bd2 (f_X4_tell N (-1000000001) x) fun r d => some (r, d)) (bd2 (f_X5_finds N (-1000000001) m) fun r d => some (r, d)) := ok_tell hh _ 0 (by decide) (by decide)
  simp only [f_X4_way, f_X5_way, x_one hI hV, m_one hI hS, x_in, m_mark, some_bind', if10]
  by_cases c1 : isP (a_n a) p1
  · simp only [if_pos c1]
    by_cases c2 : 0 ≤ p2 ∧ p2 ≤ 8
    · simp only [if_pos c2]
      obtain ⟨i, hi, rfl⟩ := isP_nat hn c1
      obtain ⟨j, hj, rfl⟩ := in_nat (m := 8) (by decide) c2
      rw [rd_nI (by omega) (by decide), some_bind', x_wayIn (hV.2.2.2.2.2.2 i hi).2.2.2.2.2 (by omega) ((hI.2.2.2.2 i hi).2.2.2.2.2.2 j (by omega)), some_bind', m_wy hI hS hi (by omega), some_bind']
      exact ok_same hh _
    · simp only [if_neg c2]; exact bad
  · simp only [if_neg c1]; exact bad
theorem op_be (h : Sys x m) (p1 p2 p3 : Int32) : Ok (f_X4_be N p1 p2 p3 x) (f_X5_be N p1 p2 p3 m) := by
  have hh := h
  obtain ⟨a, hI, hS, hV, hR⟩ := h
  have hn := hI.1
  have bad : Ok (bd2 (f_X4_tell N (-1000000001) x) fun r d => some (r, d)) (bd2 (f_X5_finds N (-1000000001) m) fun r d => some (r, d)) := ok_tell hh _ 0 (by decide) (by decide)
  simp only [f_X4_be, f_X5_be, x_one hI hV, m_one hI hS, x_in, m_mark, mi_0_3, some_bind', if10]
  by_cases c1 : isP (a_n a) p1
  · simp only [if_pos c1]
    by_cases c2 : 0 ≤ p2 ∧ p2 ≤ 8
    · simp only [if_pos c2]
      by_cases c3 : 0 ≤ p3 ∧ p3 ≤ 3
      · simp only [if_pos c3]
        obtain ⟨i, hi, rfl⟩ := isP_nat hn c1
        obtain ⟨j, hj, rfl⟩ := in_nat (m := 8) (by decide) c2
        obtain ⟨w, hw, rfl⟩ := in_nat (m := 3) (by decide) c3
        have q := (hV.2.2.2.2.2.2 i hi).2.2.2.2.2
        have b := (hI.2.2.2.2 i hi).2.2.2.2.2.2 j (by omega)
        obtain ⟨R, w1, w2⟩ := x_withWay (N := N) q (m := j) (by omega) hw
        have ei : (((21 : Int32) + ((15 : Int32) * nI i)) + (6 : Int32)) + nI j = nI (21 + 15 * i + (6 + j)) := by
          rw [lit_nI 21, lit_nI 15, lit_nI 6, nI_muln, nI_addn, nI_addn, nI_addn, Nat.add_assoc]
        rw [rd_nI (by omega) (by decide), some_bind', w1, some_bind', x_exch N (show i < 13 by omega) (by decide), bd2_some, lt_eq, x_wayIn q (by omega) b, some_bind', m_becomes N m ei (by omega), bd2_some, (hS.2.2.2.2 i hi).2.2.2.2.2.2 j (by omega)]
        exact ok_val hR _ (hI.wy hw) (hS.wy w hi (by omega)) (hV.wy w2)
      · simp only [if_neg c3]; exact bad
    · simp only [if_neg c2]; exact bad
  · simp only [if_neg c1]; exact bad
theorem op_turn (h : Sys x m) (p1 p2 : Int32) : Ok (f_X4_turn N p1 p2 x) (f_X5_turn N p1 p2 m) := by
  have hh := h
  obtain ⟨a, hI, hS, hV, hR⟩ := h
  have hn := hI.1
  have bad : Ok (bd2 (f_X4_tell N (-1000000001) x) fun r d => some (r, d)) (bd2 (f_X5_finds N (-1000000001) m) fun r d => some (r, d)) := ok_tell hh _ 0 (by decide) (by decide)
  simp only [f_X4_turn, f_X5_turn, f_X4_isKind, x_one hI hV, m_one hI hS, x_in, mi_0_5, some_bind', ckz10, if10]
  by_cases c1 : isP (a_n a) p1
  · simp only [if_pos c1]
    by_cases c2 : 0 ≤ p2 ∧ p2 ≤ 5
    · simp only [if_pos c2]
      obtain ⟨i, hi, rfl⟩ := isP_nat hn c1
      obtain ⟨j, hj, rfl⟩ := in_nat (m := 5) (by decide) c2
      rw [x_exch N (show i < 12 by omega) (by decide), bd2_some, lt_eq, m_becomes N m (p := (21 : Int32) + ((15 : Int32) * nI i)) (k := 21 + 15 * i) (by rw [lit_nI 21, lit_nI 15, nI_muln, nI_addn]) (by omega), bd2_some, (hV.2.2.2.2.2.2 i hi).1, (hS.2.2.2.2 i hi).1]
      exact ok_val hR _ (hI.kd hj) (hS.kd j hi) (hV.kd j)
    · simp only [if_neg c2]; exact bad
  · simp only [if_neg c1]; exact bad
theorem under0 : ∀ o, o < 6 → ∀ k, k < 6 → f_X4_isUnder_L4 0 8 (nI k) (nI o) 0 = f_X5_isUnder 0 (nI o) (nI k) ∧ (f_X5_isUnder 0 (nI o) (nI k) = some 0 ∨ f_X5_isUnder 0 (nI o) (nI k) = some 1) := by decide +kernel
theorem under_N (N : Nat) : ∀ (n : Nat) (c y s : Int32), f_X4_isUnder_L4 N n c y s = f_X4_isUnder_L4 0 n c y s
  | 0, c, y, s => rfl
  | n + 1, c, y, s => by
    rw [f_X4_isUnder_L4, f_X4_isUnder_L4]
    simp only [lt_eq, under_N N n]
    rfl
theorem under_up : ∀ (n k : Nat) (c y s r : Int32), f_X4_isUnder_L4 0 n c y s = some r → f_X4_isUnder_L4 0 (n + k) c y s = some r
  | 0, k, c, y, s, r, h => by cases h
  | n + 1, k, c, y, s, r, h => by
    rw [show n + 1 + k = (n + k) + 1 by omega, f_X4_isUnder_L4]
    rw [f_X4_isUnder_L4] at h
    by_cases q : (5 : Int32) < s
    · rw [if_pos q] at h ⊢; exact h
    · rw [if_neg q] at h ⊢
      cases e : f_X4_isKind 0 y with
      | none => rw [e] at h; cases h
      | some b =>
        rw [e, some_bind'] at h
        rw [some_bind']
        by_cases q2 : b = 0
        · rw [if_pos q2] at h ⊢; exact h
        · rw [if_neg q2] at h ⊢
          by_cases q3 : y = c
          · rw [if_pos q3] at h ⊢; exact h
          · rw [if_neg q3] at h ⊢
            cases e2 : rd (fun j => kaL.getD j 0) 6 y with
            | none => rw [e2] at h; cases h
            | some b2 =>
              rw [e2, some_bind', lt_eq] at h
              rw [some_bind', lt_eq]
              exact under_up n k _ _ _ r h
theorem under (hN : 5000 ≤ N) {o k : Nat} (ho : o < 6) (hk : k < 6) : ∃ r : Int32, f_X4_isUnder N (nI o) (nI k) = some r ∧ f_X5_isUnder N (nI o) (nI k) = some r := by
  obtain ⟨h1, h2⟩ := under0 o ho k hk
  have e : f_X5_isUnder N (nI o) (nI k) = f_X5_isUnder 0 (nI o) (nI k) := rfl
  have up : ∀ r, f_X4_isUnder_L4 0 8 (nI k) (nI o) 0 = some r → f_X4_isUnder N (nI o) (nI k) = some r := by
    intro r hr
    unfold f_X4_isUnder
    rw [under_N]
    have z := under_up 8 (N - 8) _ _ _ r hr
    rw [show 8 + (N - 8) = N by omega] at z
    exact z
  rw [e]
  rcases h2 with h2 | h2
  · exact ⟨0, up 0 (h1.trans h2), h2⟩
  · exact ⟨1, up 1 (h1.trans h2), h2⟩
theorem op_as (hN : 5000 ≤ N) (h : Sys x m) (p1 p2 : Int32) : Ok (f_X4_as N p1 p2 x) (f_X5_as N p1 p2 m) := by
  have hh := h
  obtain ⟨a, hI, hS, hV, hR⟩ := h
  have hn := hI.1
  have bad : Ok (bd2 (f_X4_tell N (-1000000001) x) fun r d => some (r, d)) (bd2 (f_X5_finds N (-1000000001) m) fun r d => some (r, d)) := ok_tell hh _ 0 (by decide) (by decide)
  simp only [f_X4_as, f_X5_as, f_X4_isKind, x_one hI hV, m_one hI hS, x_in, mi_0_5, some_bind', ckz10, if10]
  by_cases c1 : isP (a_n a) p1
  · simp only [if_pos c1]
    by_cases c2 : 0 ≤ p2 ∧ p2 ≤ 5
    · simp only [if_pos c2]
      obtain ⟨i, hi, rfl⟩ := isP_nat hn c1
      obtain ⟨j, hj, rfl⟩ := in_nat (m := 5) (by decide) c2
      obtain ⟨r, u1, u2⟩ := under hN (o := a_kd a i) (k := j) (by have := (hI.2.2.2.2 i hi).1; omega) (by omega)
      rw [rd_nI (by omega) (by decide), some_bind', (hV.2.2.2.2.2.2 i hi).1, u1, some_bind', m_kd hI hS hi, some_bind', u2, some_bind']
      by_cases c3 : r = 0
      · rw [if_pos c3, if_pos c3]
        exact ok_tell hh _ 2 (by decide) (by decide)
      · rw [if_neg c3, if_neg c3, rd_nI (by omega) (by decide), some_bind', (hV.2.2.2.2.2.2 i hi).2.2.1, m_gd hI hS hi, some_bind']
        exact ok_same hh _
    · simp only [if_neg c2]; exact bad
  · simp only [if_neg c1]; exact bad
theorem op_like (hN : 5000 ≤ N) (h : Sys x m) (p1 p2 : Int32) : Ok (f_X4_like N p1 p2 x) (f_X5_like N p1 p2 m) := by
  have hh := h
  obtain ⟨a, hI, hS, hV, hR⟩ := h
  have hn := hI.1
  have bad : Ok (bd2 (f_X4_tell N (-1000000001) x) fun r d => some (r, d)) (bd2 (f_X5_finds N (-1000000001) m) fun r d => some (r, d)) := ok_tell hh _ 0 (by decide) (by decide)
  simp only [f_X4_like, f_X5_like, x_two hI hV, m_two hI hS, some_bind', if10]
  by_cases c1 : are2 (a_n a) p1 p2
  · simp only [if_pos c1]
    obtain ⟨i, hi, rfl⟩ := isP_nat hn c1.1
    obtain ⟨j, hj, rfl⟩ := isP_nat hn c1.2.1
    rw [v_like hI hV hi hj, some_bind', m_like hN hI hS hi hj, some_bind']
    exact ok_same hh _
  · simp only [if_neg c1]; exact bad
theorem sm_add (f g : Nat → Nat) : ∀ n, sm (fun k => f k + g k) n = sm f n + sm g n
  | 0 => rfl
  | n + 1 => by
    have ih := sm_add f g n
    show sm (fun k => f k + g k) n + (f n + g n) = sm f n + f n + (sm g n + g n)
    omega
theorem sm_one' : ∀ n, sm (fun _ => 1) n = n
  | 0 => rfl
  | n + 1 => by rw [sm, sm_one' n]
theorem sm_zero {f : Nat → Nat} : ∀ {n}, (∀ k, k < n → f k = 0) → sm f n = 0
  | 0, _ => rfl
  | n + 1, h => by rw [sm, sm_zero (n := n) (fun k hk => h k (by omega)), h n (by omega)]
theorem m_same_L (hI : Inv a) (hS : SR a (m_s m)) {i j : Nat} (hi : i < a_n a) (hj : j < a_n a) : ∀ (t k n : Nat), k + t = 9 → t < n →
    f_X5_same_L21 N n (nI i) (nI j) (nI (sm (fun q => if a_wy a i q = a_wy a j q then 1 else 0) k)) (nI k) m = some (nI (sm (fun q => if a_wy a i q = a_wy a j q then 1 else 0) 9), m) := by
  intro t
  induction t with
  | zero =>
    intro k n h1 h2
    obtain ⟨n', rfl⟩ : ∃ n', n = n' + 1 := ⟨n - 1, by omega⟩
    obtain rfl : k = 9 := by omega
    rw [f_X5_same_L21, if_pos (show (9 : Int32) ≤ nI 9 from nI_le (Nat.le_refl 9) (by decide))]
  | succ t ih =>
    intro k n h1 h2
    obtain ⟨n', rfl⟩ : ∃ n', n = n' + 1 := ⟨n - 1, by omega⟩
    have b1 := (hI.2.2.2.2 i hi).2.2.2.2.2.2 k (by omega)
    have b2 := (hI.2.2.2.2 j hj).2.2.2.2.2.2 k (by omega)
    have ih' := ih (k + 1) n' (by omega) (by omega)
    rw [f_X5_same_L21, if_neg (show ¬ (9 : Int32) ≤ nI k from nI_ge (show k < 9 by omega) (by decide)), m_wy hI hS hi (by omega), some_bind', m_wy hI hS hj (by omega), some_bind']
    rw [sm] at ih'
    by_cases c : a_wy a i k = a_wy a j k
    · rw [if_pos c] at ih'
      rw [if_pos (by rw [c]), lt_eq, lt_eq, nI_1, nI_1]
      exact ih'
    · rw [if_neg c] at ih'
      rw [if_neg (by rw [nI_eq_iff (by omega) (by omega)]; exact c), lt_eq, lt_eq, nI_1, lit_nI 0, nI_addn]
      exact ih'
theorem op_same (hN : 5000 ≤ N) (h : Sys x m) (p1 p2 : Int32) : Ok (f_X4_same N p1 p2 x) (f_X5_same N p1 p2 m) := by
  have hh := h
  obtain ⟨a, hI, hS, hV, hR⟩ := h
  have hn := hI.1
  have bad : Ok (bd2 (f_X4_tell N (-1000000001) x) fun r d => some (r, d)) (bd2 (f_X5_finds N (-1000000001) m) fun r d => some (r, d)) := ok_tell hh _ 0 (by decide) (by decide)
  simp only [f_X4_same, f_X5_same, x_two hI hV, m_two hI hS, some_bind', if10]
  by_cases c1 : are2 (a_n a) p1 p2
  · simp only [if_pos c1]
    obtain ⟨i, hi, rfl⟩ := isP_nat hn c1.1
    obtain ⟨j, hj, rfl⟩ := isP_nat hn c1.2.1
    obtain ⟨u, u1, u2⟩ := x_unlike (N := N) (hV.2.2.2.2.2.2 i hi).2.2.2.2.2 (hV.2.2.2.2.2.2 j hj).2.2.2.2.2 (hI.2.2.2.2 i hi).2.2.2.2.2.2 (hI.2.2.2.2 j hj).2.2.2.2.2.2
    have hu : ∀ q, 12 ≤ q → bt u q = false := fun q hq => by
      rcases Nat.lt_or_ge q 32 with c | c
      · rw [u2 q c, decide_eq_false (by omega), Bool.false_and]
      · exact b_big c
    have z := m_same_L (N := N) hI hS hi hj 9 0 N (by omega) (by omega)
    have e1 : sm (fun q => if bt u q then 1 else 0) 12 = sm (fun q => if a_wy a i q = a_wy a j q then 0 else 1) 9 := by
      rw [show (12 : Nat) = 9 + 3 from rfl, sm_split _ 9 3, sm_zero (n := 3) (fun k hk => by rw [u2 (9 + k) (by omega), decide_eq_false (by omega), Bool.false_and]; rfl), Nat.add_zero]
      refine sm_cong (fun k hk => ?_)
      rw [u2 k (by omega), decide_eq_true hk, Bool.true_and]
      by_cases c : a_wy a i k = a_wy a j k <;> simp [c]
    have e2 : sm (fun q => if a_wy a i q = a_wy a j q then 1 else 0) 9 + sm (fun q => if a_wy a i q = a_wy a j q then 0 else 1) 9 = 9 := by
      rw [← sm_add, sm_cong (g := fun _ => 1) (fun k hk => by by_cases c : a_wy a i k = a_wy a j k <;> simp [c]), sm_one']
    have z : f_X5_same_L21 N N (nI i) (nI j) 0 0 m = some (nI (sm (fun q => if a_wy a i q = a_wy a j q then 1 else 0) 9), m) := z
    rw [rd_nI (by omega) (by decide), some_bind', rd_nI (by omega) (by decide), some_bind', u1, some_bind', bitc hu, some_bind', z, e1, lit_nI 9, pk_sub (by omega), show 9 - sm (fun q => if a_wy a i q = a_wy a j q then 0 else 1) 9 = sm (fun q => if a_wy a i q = a_wy a j q then 1 else 0) 9 by omega]
    exact ok_same hh _
  · simp only [if_neg c1]; exact bad
theorem op_heir (hN : 5000 ≤ N) (h : Sys x m) (p1 : Int32) : Ok (f_X4_heir N p1 x) (f_X5_heir N p1 m) := by
  have hh := h
  obtain ⟨a, hI, hS, hV, hR⟩ := h
  have hn := hI.1
  have bad : Ok (bd2 (f_X4_tell N (-1000000001) x) fun r d => some (r, d)) (bd2 (f_X5_finds N (-1000000001) m) fun r d => some (r, d)) := ok_tell hh _ 0 (by decide) (by decide)
  simp only [f_X4_heir, f_X5_heir, x_one hI hV, m_one hI hS, some_bind', if10]
  by_cases c1 : isP (a_n a) p1
  · simp only [if_pos c1]
    obtain ⟨i, hi, rfl⟩ := isP_nat hn c1
    have hl := heir_le a i
    rw [v_heir hN hI hV hi, some_bind', m_heir hN hI hS hi, some_bind']
    by_cases c2 : heir a i = 0
    · rw [if_pos (by rw [enc_m1 (by omega)]; exact c2), if_neg (by rw [enc_nn (by omega)]; exact fun z => z c2)]
      exact ok_tell hh _ 3 (by decide) (by decide)
    · rw [if_neg (by rw [enc_m1 (by omega)]; exact c2), if_pos (by rw [enc_nn (by omega)]; exact c2)]
      exact ok_same hh _
  · simp only [if_neg c1]; exact bad
theorem op_heirOf (hN : 5000 ≤ N) (h : Sys x m) (p1 : Int32) : Ok (f_X4_heirOf N p1 x) (f_X5_heirOf N p1 m) := by
  have hh := h
  obtain ⟨a, hI, hS, hV, hR⟩ := h
  have hn := hI.1
  have bad : Ok (bd2 (f_X4_tell N (-1000000001) x) fun r d => some (r, d)) (bd2 (f_X5_finds N (-1000000001) m) fun r d => some (r, d)) := ok_tell hh _ 0 (by decide) (by decide)
  simp only [f_X4_heirOf, f_X5_heirOf, x_one hI hV, m_one hI hS, some_bind', if10]
  by_cases c1 : isP (a_n a) p1
  · simp only [if_pos c1]
    obtain ⟨i, hi, rfl⟩ := isP_nat hn c1
    rw [v_leavers hN hI hV hi, some_bind', m_heirs hN hI hS hi, some_bind']
    exact ok_same hh _
  · simp only [if_neg c1]; exact bad
theorem op_watched (hN : 5000 ≤ N) (h : Sys x m) (p1 : Int32) : Ok (f_X4_watched N p1 x) (f_X5_watched N p1 m) := by
  have hh := h
  obtain ⟨a, hI, hS, hV, hR⟩ := h
  have hn := hI.1
  have bad : Ok (bd2 (f_X4_tell N (-1000000001) x) fun r d => some (r, d)) (bd2 (f_X5_finds N (-1000000001) m) fun r d => some (r, d)) := ok_tell hh _ 0 (by decide) (by decide)
  simp only [f_X4_watched, f_X5_watched, x_one hI hV, m_one hI hS, some_bind', if10]
  by_cases c1 : isP (a_n a) p1
  · simp only [if_pos c1]
    obtain ⟨i, hi, rfl⟩ := isP_nat hn c1
    have z : f_X5_watched_L19 N N (nI i) 0 0 m = some (watch a i, m) := m_watch_L hN hI hS hi (a_n a) 0 N (by omega) (by omega)
    rw [v_watch hN hI hV hi, some_bind', z]
    exact ok_same hh _
  · simp only [if_neg c1]; exact bad
theorem op_changes (hN : 5000 ≤ N) (h : Sys x m) (p1 : Int32) : Ok (f_X4_changes N p1 x) (f_X5_changes N p1 m) := by
  have hh := h
  obtain ⟨a, hI, hS, hV, hR⟩ := h
  have hn := hI.1
  have bad : Ok (bd2 (f_X4_tell N (-1000000001) x) fun r d => some (r, d)) (bd2 (f_X5_finds N (-1000000001) m) fun r d => some (r, d)) := ok_tell hh _ 0 (by decide) (by decide)
  have none' : Ok (bd2 (f_X4_tell N (-1000000004) x) fun r d => some (r, d)) (bd2 (f_X5_finds N (-1000000004) m) fun r d => some (r, d)) := ok_tell hh _ 3 (by decide) (by decide)
  simp only [f_X4_changes, f_X5_changes, f_X4_changes_J38, f_X5_changes_J32, x_one hI hV, m_one hI hS, some_bind', if10]
  by_cases c1 : isP (a_n a) p1
  · simp only [if_pos c1]
    obtain ⟨i, hi, rfl⟩ := isP_nat hn c1
    have hc := chg_le a i
    rw [v_lives hI hV hi, some_bind', m_lives hI hS hi, some_bind']
    cases c2 : a_lv a i with
    | false =>
      simp only [if_neg (show ¬ false = true by decide), if_true, if_neg (show ¬ (0 : Int32) ≤ -1 by decide)]
      exact none'
    | true =>
      simp only [if_true, if_neg (show ¬ (1 : Int32) = 0 by decide)]
      rw [v_plan hN hI hV hi, some_bind', m_chg hN hI hS hi, some_bind']
      unfold plan
      by_cases c3 : chg a i = 0
      · rw [if_pos c3, if_pos rfl, if_neg (by rw [enc_nn (by omega)]; exact fun z => z c3)]
        exact none'
      · have hw : neww a i (chg a i - 1) ≤ 3 := neww_le hI hi (by omega) (fun k => chg_aim c3 k)
        rw [if_neg c3, if_neg (nI_ne_m1 _ (by omega)), if_pos (by rw [enc_nn (by omega)]; exact c3), lit_nI 10, pk_div (by omega) (by omega) (by omega), show (10 * (chg a i - 1) + neww a i (chg a i - 1)) / 10 = chg a i - 1 by omega, enc_pos c3]
        exact ok_same hh _
  · simp only [if_neg c1]; exact bad
theorem op_dies (hN : 5000 ≤ N) (h : Sys x m) (p1 : Int32) : Ok (f_X4_dies N p1 x) (f_X5_dies N p1 m) := by
  have hh := h
  obtain ⟨a, hI, hS, hV, hR⟩ := h
  have hn := hI.1
  have bad : Ok (bd2 (f_X4_tell N (-1000000001) x) fun r d => some (r, d)) (bd2 (f_X5_finds N (-1000000001) m) fun r d => some (r, d)) := ok_tell hh _ 0 (by decide) (by decide)
  simp only [f_X4_dies, f_X5_dies, x_one hI hV, m_one hI hS, some_bind', if10]
  by_cases c1 : isP (a_n a) p1
  · simp only [if_pos c1]
    obtain ⟨i, hi, rfl⟩ := isP_nat hn c1
    rw [v_lives hI hV hi, some_bind', m_lives hI hS hi, some_bind', if10, if10]
    by_cases c2 : a_lv a i = true
    · rw [if_pos c2, if_pos c2]
      obtain ⟨v', q1, q2, -⟩ := v_die hN hI hV hi
      obtain ⟨s', r1, r2⟩ := m_die hN hI hS hi
      rw [q1, bd2_some, lt_eq, r1, some_bind']
      exact ok_go hR _ (KX.v x v') (((KM.h m _).tr (KM.s _ _)).kr) (die_inv hI i) r2 q2
    · rw [if_neg c2, if_neg c2]
      exact ok_tell hh _ 4 (by decide) (by decide)
  · simp only [if_neg c1]; exact bad
theorem op_years (hN : 5000 ≤ N) (h : Sys x m) (p1 : Int32) : Ok (f_X4_years N p1 x) (f_X5_years N p1 m) := by
  have hh := h
  obtain ⟨a, hI, hS, hV, hR⟩ := h
  have hn := hI.1
  have bad : Ok (bd2 (f_X4_tell N (-1000000001) x) fun r d => some (r, d)) (bd2 (f_X5_finds N (-1000000001) m) fun r d => some (r, d)) := ok_tell hh _ 0 (by decide) (by decide)
  simp only [f_X4_years, f_X5_years, x_in, mi_1_100, some_bind', if10]
  by_cases c1 : 1 ≤ p1 ∧ p1 ≤ 100
  · simp only [if_pos c1]
    obtain ⟨n, hn', rfl⟩ := in_nat (m := 100) (by decide) ⟨by have := c1.1; rw [fa_le'] at this ⊢; exact Int.le_trans (by decide) this, c1.2⟩
    simp only [x_late hI hV hn', m_far hI hS hn', some_bind', if01]
    by_cases c2 : a_y a + n ≤ 9999
    · simp only [if_pos c2]
      obtain ⟨v', q1, q2, -⟩ := v_years hN hI hV c2 hn'
      obtain ⟨d, r1, r2, r3, -⟩ := m_yrs hN hI hS hR.2.2.2.2.2 c2 hn'
      rw [q1, bd2_some, lt_eq, r1, bd2_some]
      exact ok_go hR _ (KX.v x v') r3 (years_ok hI n c2).2.1 r2 q2
    · simp only [if_neg c2]
      exact ok_tell hh _ 4 (by decide) (by decide)
  · simp only [if_neg c1]; exact bad
end OPS2
