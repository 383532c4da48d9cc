section MOD5d
variable {N : Nat} {d : MD} {a : AS}
/-- a year -/
theorem m_year (hN : 5000 ≤ N) (hI : Inv a) (hS : SR a (m_s d)) {q : Nat} (hq : q ≤ 12) (hA : m_asked d = enc q) : ∃ d', f_X5_goesOn N d = some (nI (yearD a), d') ∧ SR (year a) (m_s d') ∧ m_noted d' = ntd (yearA a) q 0 (a_n a) (m_noted d) ∧ KM d d' := by
  have hn := hI.1
  obtain ⟨a1, a2, a3⟩ := alters_ok hI (a_n a) (Nat.le_refl _)
  obtain ⟨y1, y2, y3⟩ := yearA_ok hI
  obtain ⟨s1, q1, q2⟩ := m_alters_L (d := d) hN hI (a_n a) 0 N (m_s d) (by omega) (by omega) hS
  obtain ⟨s2, r1, r2⟩ := m_olds_L (N := N) (d := d) a2 (a_n a) 0 N s1 (by omega) (by omega) q2
  have r2 : SR (yearA a) s2 := by unfold yearA; rw [a1] at r2; exact r2
  obtain ⟨d3, t1, t2, t3, t4⟩ := m_deaths_L hN y2 hq (a_n a) 0 N (m_set_s d s2) (by omega) (by omega) r2 hA
  unfold f_X5_goesOn
  refine ⟨d3, ?_, ?_, t3, (KM.s _ _).tr t4⟩
  · have z := q1.trans (r1.trans t1)
    rw [y1] at z
    exact z
  · unfold year
    rw [y1, y3] at t2
    exact t2
theorem m_years_L (hN : 5000 ≤ N) (hI : Inv a) {n : Nat} (hn : a_y a + n ≤ 9999) (h100 : n ≤ 100) {q : Nat} (hq : q ≤ 12) : ∀ (t k f : Nat) (d : MD), k + t = n → t < f → SR (years a k) (m_s d) → m_asked d = enc q →
    ∃ d', f_X5_goesOnMany_L4 N f (nI n) (nI (yearsD a k)) (nI k) d = some (nI (yearsD a n), d') ∧ SR (years a n) (m_s d') ∧ KM d d' := by
  intro t
  induction t with
  | zero =>
    intro k f d h1 h2 hS hA
    obtain ⟨n', rfl⟩ : ∃ n', f = n' + 1 := ⟨f - 1, by omega⟩
    obtain rfl : k = n := by omega
    rw [f_X5_goesOnMany_L4, if_pos (nI_le (Nat.le_refl _) (by omega))]
    exact ⟨d, rfl, hS, KM.rf d⟩
  | succ t ih =>
    intro k f d h1 h2 hS hA
    obtain ⟨n', rfl⟩ : ∃ n', f = n' + 1 := ⟨f - 1, by omega⟩
    obtain ⟨e1, e2, e3⟩ := years_ok hI k (by omega)
    rw [f_X5_goesOnMany_L4, if_neg (nI_ge (by omega) (by omega))]
    obtain ⟨d1, q1, q2, q3, q4⟩ := m_year hN e2 hS hq hA
    rw [q1, bd2_some, lt_eq, lt_eq, nI_addn, nI_1]
    obtain ⟨d2, r1, r2, r3⟩ := ih (k + 1) n' d1 (by omega) (by omega) q2 (q4.2.2.2.2.2.2.2.2.2.trans hA)
    exact ⟨d2, r1, r2, q4.tr r3⟩
theorem m_years (hN : 5000 ≤ N) (hI : Inv a) (hS : SR a (m_s d)) {n : Nat} (hn : a_y a + n ≤ 9999) (h100 : n ≤ 100) {q : Nat} (hq : q ≤ 12) (hA : m_asked d = enc q) : ∃ d', f_X5_goesOnMany N (nI n) d = some (nI (yearsD a n), d') ∧ SR (years a n) (m_s d') ∧ KM d d' := by
  unfold f_X5_goesOnMany
  exact m_years_L hN hI hn h100 hq n 0 N d (by omega) (by omega) hS hA
end MOD5d
