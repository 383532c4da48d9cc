/-! ===== THE REFERENCE: years ===== -/
theorem alters_ok {a : AS} (hI : Inv a) : ∀ k, k ≤ a_n a → a_n (alters a k) = a_n a ∧ Inv (alters a k) ∧ a_y (alters a k) = a_y a
  | 0, _ => ⟨rfl, hI, rfl⟩
  | k + 1, h => by
    obtain ⟨h1, h2, h3⟩ := alters_ok hI k (by omega)
    rw [alters]
    split
    · refine ⟨(alter_n _ _).trans h1, alter_inv h2 (by omega), ?_⟩
      rw [← h3]; unfold alter; split <;> rfl
    · exact ⟨h1, h2, h3⟩
theorem olds_ok {a : AS} (hI : Inv a) : ∀ k, a_n (olds a k) = a_n a ∧ Inv (olds a k) ∧ a_y (olds a k) = a_y a
  | 0 => ⟨rfl, hI, rfl⟩
  | k + 1 => by
    obtain ⟨h1, h2, h3⟩ := olds_ok hI k
    rw [olds]
    split
    · rename_i c
      exact ⟨h1, h2.ag (by omega), h3⟩
    · exact ⟨h1, h2, h3⟩
theorem deaths_ok {a : AS} (hI : Inv a) : ∀ k, a_n (deaths a k) = a_n a ∧ Inv (deaths a k) ∧ a_y (deaths a k) = a_y a
  | 0 => ⟨rfl, hI, rfl⟩
  | k + 1 => by
    obtain ⟨h1, h2, h3⟩ := deaths_ok hI k
    rw [deaths]
    split
    · refine ⟨(die_n _ _).trans h1, die_inv h2 k, ?_⟩
      rw [← h3]; unfold die; split; rfl; split <;> rfl
    · exact ⟨h1, h2, h3⟩
theorem yearA_ok {a : AS} (hI : Inv a) : a_n (yearA a) = a_n a ∧ Inv (yearA a) ∧ a_y (yearA a) = a_y a := by
  obtain ⟨h1, h2, h3⟩ := alters_ok hI (a_n a) (Nat.le_refl _)
  obtain ⟨g1, g2, g3⟩ := olds_ok h2 (a_n a)
  exact ⟨g1.trans h1, g2, g3.trans h3⟩
theorem year_ok {a : AS} (hI : Inv a) (hy : a_y a + 1 ≤ 9999) : a_n (year a) = a_n a ∧ Inv (year a) ∧ a_y (year a) = a_y a + 1 := by
  obtain ⟨h1, h2, h3⟩ := yearA_ok hI
  obtain ⟨g1, g2, g3⟩ := deaths_ok h2 (a_n a)
  exact ⟨g1.trans h1, g2.y hy, rfl⟩
theorem years_ok {a : AS} (hI : Inv a) : ∀ k, a_y a + k ≤ 9999 → a_n (years a k) = a_n a ∧ Inv (years a k) ∧ a_y (years a k) = a_y a + k
  | 0, _ => ⟨rfl, hI, rfl⟩
  | k + 1, h => by
    obtain ⟨h1, h2, h3⟩ := years_ok hI k (by omega)
    obtain ⟨g1, g2, g3⟩ := year_ok h2 (by omega)
    exact ⟨g1.trans h1, g2, by rw [years, g3, h3]; omega⟩
theorem ndead_le (a : AS) : ∀ k, ndead a k ≤ k
  | 0 => Nat.le_refl _
  | k + 1 => by
    have := ndead_le a k
    rw [ndead]
    split <;> omega
def dcond (b : AS) (k : Nat) : Prop := a_lv (deaths b k) k = true ∧ a_tm (deaths b k) k ≤ a_ag (deaths b k) k
/-- what is noted of the one that is asked for (q: 0 nobody, i + 1) from place k on -/
noncomputable def ntd (b : AS) (q k : Nat) : Nat → Int32 → Int32
  | 0, x => x
  | t + 1, x => ntd b q (k + 1) t (@ite _ (dcond b k ∧ q = k + 1) (Classical.propDecidable _) (enc (heir (dead (deaths b k) k) k)) x)
section MOD5
variable {N : Nat} {d : MD} {a : AS}
theorem m_alters_L (hN : 5000 ≤ N) (hI : Inv a) : ∀ (t k n : Nat) (s : Nat → Int32), k + t = a_n a → t < n → SR (alters a k) s →
    ∃ s', f_X5_goesOn_L2 N n (nI k) (m_set_s d s) = f_X5_goesOn_L33 N N (0 : Int32) (m_set_s d s') ∧ SR (alters a (a_n a)) s' := by
  have hn := hI.1
  intro t
  induction t with
  | zero =>
    intro k n s h1 h2 hS
    obtain ⟨n', rfl⟩ : ∃ n', n = n' + 1 := ⟨n - 1, by omega⟩
    obtain rfl : k = a_n a := by omega
    obtain ⟨e1, e2, -⟩ := alters_ok hI (a_n a) (by omega)
    have hS0 : SR (alters a (a_n a)) (m_s (m_set_s d s)) := hS
    rw [f_X5_goesOn_L2, m_n hS0, some_bind', e1, if_pos (nI_le (Nat.le_refl _) (by omega))]
    exact ⟨s, rfl, hS⟩
  | succ t ih =>
    intro k n s h1 h2 hS
    obtain ⟨n', rfl⟩ : ∃ n', n = n' + 1 := ⟨n - 1, by omega⟩
    obtain ⟨e1, e2, -⟩ := alters_ok hI k (by omega)
    have hS0 : SR (alters a k) (m_s (m_set_s d s)) := hS
    have hk : k < a_n (alters a k) := by omega
    rw [f_X5_goesOn_L2, m_n hS0, some_bind', if_neg (nI_ge hk (by omega)), m_lives e2 hS0 hk, some_bind']
    cases c : a_lv (alters a k) k with
    | false =>
      rw [if_pos (by rfl), lt_eq, nI_1]
      exact ih (k + 1) n' s (by omega) (by omega) (by rw [alters, c, if_neg (by decide)]; exact hS)
    | true =>
      rw [if_neg (by decide)]
      obtain ⟨s1, q1, q2⟩ := m_alter hN e2 hS0 hk
      rw [q1, some_bind', lt_eq, nI_1]
      exact ih (k + 1) n' s1 (by omega) (by omega) (by rw [alters, c, if_pos rfl]; exact q2)
end MOD5
