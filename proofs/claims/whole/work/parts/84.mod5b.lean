section MOD5b
variable {N : Nat} {d : MD} {a : AS}
theorem m_olds_L (hI : Inv a) : ∀ (t k n : Nat) (s : Nat → Int32), k + t = a_n a → t < n → SR (olds a k) s →
    ∃ s', f_X5_goesOn_L33 N n (nI k) (m_set_s d s) = f_X5_goesOn_L86 N N (0 : Int32) (0 : Int32) (m_set_s d s') ∧ SR (olds a (a_n a)) s' := by
  have hn := hI.1
  intro t
  induction t with
  | zero =>
    intro k n s h1 h2 hS
    obtain ⟨n', rfl⟩ : ∃ n', n = n' + 1 := ⟨n - 1, by omega⟩
    obtain rfl : k = a_n a := by omega
    obtain ⟨e1, e2, -⟩ := olds_ok hI (a_n a)
    have hS0 : SR (olds a (a_n a)) (m_s (m_set_s d s)) := hS
    rw [f_X5_goesOn_L33, m_n hS0, some_bind', e1, if_pos (nI_le (Nat.le_refl _) (by omega))]
    exact ⟨s, rfl, hS⟩
  | succ t ih =>
    intro k n s h1 h2 hS
    obtain ⟨n', rfl⟩ : ∃ n', n = n' + 1 := ⟨n - 1, by omega⟩
    obtain ⟨e1, e2, -⟩ := olds_ok hI k
    have hS0 : SR (olds a k) (m_s (m_set_s d s)) := hS
    have hk : k < a_n (olds a k) := by omega
    have hg := (e2.2.2.2.2 k hk).2.1
    rw [f_X5_goesOn_L33, m_n hS0, some_bind', if_neg (nI_ge hk (by omega)), m_lives e2 hS0 hk, some_bind']
    cases c : a_lv (olds a k) k with
    | false =>
      rw [if_pos (by rfl), lt_eq, nI_1]
      exact ih (k + 1) n' s (by omega) (by omega) (by rw [olds, if_neg (by rw [c]; simp)]; exact hS)
    | true =>
      rw [if_neg (by decide), m_ag e2 hS0 hk, some_bind']
      by_cases c2 : 120 ≤ a_ag (olds a k) k
      · rw [if_pos (by rw [lit_nI 120, nI_le_iff (by decide) (by omega)]; exact c2), lt_eq, nI_1]
        exact ih (k + 1) n' s (by omega) (by omega) (by rw [olds, if_neg (by omega)]; exact hS)
      · have p1 := m_puts N (m_set_s d s) (k := k) (w := 1) (by omega) (by omega) (nI (a_ag (olds a k) k + 1))
        rw [if_neg (by rw [lit_nI 120, nI_le_iff (by decide) (by omega)]; exact c2), some_bind', nI_1, show (1 : Int32) = nI 1 from rfl, p1, some_bind', lt_eq, ← show (1 : Int32) = nI 1 from rfl, nI_1]
        exact ih (k + 1) n' _ (by omega) (by omega) (by rw [olds, if_pos ⟨c, by omega⟩]; exact hS.ag _ hk)
end MOD5b
