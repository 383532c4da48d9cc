/-! ===== THE REFERENCE: years ===== -/
theorem alters_ok {a : AS} (hI : Inv a) : ∀ k, k ≤ a_n a → a_n (alters a k) = a_n a ∧ Inv (alters a k) ∧ a_y (alters a k) = a_y a
  | 0, _ => ⟨rfl, hI, rfl⟩
  | k + 1, h => by
    obtain ⟨h1, h2, h3⟩ := alters_ok hI k (by omega)
    rw [alters]
    split
    · refine ⟨(alter_n _ _).trans h1, alter_inv h2 (by omega), ?_⟩
      rw [← h3]; unfold alter; split <;> rfl
    · exact ⟨h1, h2, h3⟩
theorem olds_ok {a : AS} (hI : Inv a) : ∀ k, a_n (olds a k) = a_n a ∧ Inv (olds a k) ∧ a_y (olds a k) = a_y a
  | 0 => ⟨rfl, hI, rfl⟩
  | k + 1 => by
    obtain ⟨h1, h2, h3⟩ := olds_ok hI k
    rw [olds]
    split
    · rename_i c
      exact ⟨h1, h2.ag (by omega), h3⟩
    · exact ⟨h1, h2, h3⟩
theorem deaths_ok {a : AS} (hI : Inv a) : ∀ k, a_n (deaths a k) = a_n a ∧ Inv (deaths a k) ∧ a_y (deaths a k) = a_y a
  | 0 => ⟨rfl, hI, rfl⟩
  | k + 1 => by
    obtain ⟨h1, h2, h3⟩ := deaths_ok hI k
    rw [deaths]
    split
    · refine ⟨(die_n _ _).trans h1, die_inv h2 k, ?_⟩
      rw [← h3]; unfold die; split; rfl; split <;> rfl
    · exact ⟨h1, h2, h3⟩
theorem yearA_ok {a : AS} (hI : Inv a) : a_n (yearA a) = a_n a ∧ Inv (yearA a) ∧ a_y (yearA a) = a_y a := by
  obtain ⟨h1, h2, h3⟩ := alters_ok hI (a_n a) (Nat.le_refl _)
  obtain ⟨g1, g2, g3⟩ := olds_ok h2 (a_n a)
  exact ⟨g1.trans h1, g2, g3.trans h3⟩
theorem year_ok {a : AS} (hI : Inv a) (hy : a_y a + 1 ≤ 9999) : a_n (year a) = a_n a ∧ Inv (year a) ∧ a_y (year a) = a_y a + 1 := by
  obtain ⟨h1, h2, h3⟩ := yearA_ok hI
  obtain ⟨g1, g2, g3⟩ := deaths_ok h2 (a_n a)
  exact ⟨g1.trans h1, g2.y hy, rfl⟩
theorem years_ok {a : AS} (hI : Inv a) : ∀ k, a_y a + k ≤ 9999 → a_n (years a k) = a_n a ∧ Inv (years a k) ∧ a_y (years a k) = a_y a + k
  | 0, _ => ⟨rfl, hI, rfl⟩
  | k + 1, h => by
    obtain ⟨h1, h2, h3⟩ := years_ok hI k (by omega)
    obtain ⟨g1, g2, g3⟩ := year_ok h2 (by omega)
    exact ⟨g1.trans h1, g2, by rw [years, g3, h3]; omega⟩
theorem ndead_le (a : AS) : ∀ k, ndead a k ≤ k
  | 0 => Nat.le_refl _
  | k + 1 => by
    have := ndead_le a k
    rw [ndead]
    split <;> omega
def dcond (b : AS) (k : Nat) : Prop := a_lv (deaths b k) k = true ∧ a_tm (deaths b k) k ≤ a_ag (deaths b k) k
/-- what is noted of the one that is asked for (q: 0 nobody, i + 1) from place k on -/
noncomputable def ntd (b : AS) (q k : Nat) : Nat → Int32 → Int32
  | 0, x => x
  | t + 1, x => ntd b q (k + 1) t (@ite _ (dcond b k ∧ q = k + 1) (Classical.propDecidable _) (enc (heir (dead (deaths b k) k) k)) x)
section MOD5
variable {N : Nat} {d : MD} {a : AS}
theorem m_alters_L (hN : 5000 ≤ N) (hI : Inv a) : ∀ (t k n : Nat) (s : Nat → Int32), k + t = a_n a → t < n → SR (alters a k) s →
    ∃ s', f_X5_goesOn_L2 N n (nI k) (m_set_s d s) = f_X5_goesOn_L33 N N (0 : Int32) (m_set_s d s') ∧ SR (alters a (a_n a)) s' := by
  have hn := hI.1
  intro t
  induction t with
  | zero =>
    intro k n s h1 h2 hS
    obtain ⟨n', rfl⟩ : ∃ n', n = n' + 1 := ⟨n - 1, by omega⟩
    obtain rfl : k = a_n a := by omega
    obtain ⟨e1, e2, -⟩ := alters_ok hI (a_n a) (by omega)
    have hS0 : SR (alters a (a_n a)) (m_s (m_set_s d s)) := hS
    rw [f_X5_goesOn_L2, m_n hS0, some_bind', e1, if_pos (nI_le (Nat.le_refl _) (by omega))]
    exact ⟨s, rfl, hS⟩
  | succ t ih =>
    intro k n s h1 h2 hS
    obtain ⟨n', rfl⟩ : ∃ n', n = n' + 1 := ⟨n - 1, by omega⟩
    obtain ⟨e1, e2, -⟩ := alters_ok hI k (by omega)
    have hS0 : SR (alters a k) (m_s (m_set_s d s)) := hS
    have hk : k < a_n (alters a k) := by omega
    rw [f_X5_goesOn_L2, m_n hS0, some_bind', if_neg (nI_ge hk (by omega)), m_lives e2 hS0 hk, some_bind']
    cases c : a_lv (alters a k) k with
    | false =>
      rw [if_pos (by rfl), lt_eq, nI_1]
      exact ih (k + 1) n' s (by omega) (by omega) (by rw [alters, c, if_neg (by decide)]; exact hS)
    | true =>
      rw [if_neg (by decide)]
      obtain ⟨s1, q1, q2⟩ := m_alter hN e2 hS0 hk
      rw [q1, some_bind', lt_eq, nI_1]
      exact ih (k + 1) n' s1 (by omega) (by omega) (by rw [alters, c, if_pos rfl]; exact q2)
theorem m_olds_L (hI : Inv a) : ∀ (t k n : Nat) (s : Nat → Int32), k + t = a_n a → t < n → SR (olds a k) s →
    ∃ s', f_X5_goesOn_L33 N n (nI k) (m_set_s d s) = f_X5_goesOn_L86 N N (0 : Int32) (0 : Int32) (m_set_s d s') ∧ SR (olds a (a_n a)) s' := by
  have hn := hI.1
  intro t
  induction t with
  | zero =>
    intro k n s h1 h2 hS
    obtain ⟨n', rfl⟩ : ∃ n', n = n' + 1 := ⟨n - 1, by omega⟩
    obtain rfl : k = a_n a := by omega
    obtain ⟨e1, e2, -⟩ := olds_ok hI (a_n a)
    have hS0 : SR (olds a (a_n a)) (m_s (m_set_s d s)) := hS
    rw [f_X5_goesOn_L33, m_n hS0, some_bind', e1, if_pos (nI_le (Nat.le_refl _) (by omega))]
    exact ⟨s, rfl, hS⟩
  | succ t ih =>
    intro k n s h1 h2 hS
    obtain ⟨n', rfl⟩ : ∃ n', n = n' + 1 := ⟨n - 1, by omega⟩
    obtain ⟨e1, e2, -⟩ := olds_ok hI k
    have hS0 : SR (olds a k) (m_s (m_set_s d s)) := hS
    have hk : k < a_n (olds a k) := by omega
    have hg := (e2.2.2.2.2 k hk).2.1
    rw [f_X5_goesOn_L33, m_n hS0, some_bind', if_neg (nI_ge hk (by omega)), m_lives e2 hS0 hk, some_bind']
    cases c : a_lv (olds a k) k with
    | false =>
      rw [if_pos (by rfl), lt_eq, nI_1]
      exact ih (k + 1) n' s (by omega) (by omega) (by rw [olds, if_neg (by rw [c]; simp)]; exact hS)
    | true =>
      rw [if_neg (by decide), m_ag e2 hS0 hk, some_bind']
      by_cases c2 : 120 ≤ a_ag (olds a k) k
      · rw [if_pos (by rw [lit_nI 120, nI_le_iff (by decide) (by omega)]; exact c2), lt_eq, nI_1]
        exact ih (k + 1) n' s (by omega) (by omega) (by rw [olds, if_neg (by omega)]; exact hS)
      · have p1 := m_puts N (m_set_s d s) (k := k) (w := 1) (by omega) (by omega) (nI (a_ag (olds a k) k + 1))
        rw [if_neg (by rw [lit_nI 120, nI_le_iff (by decide) (by omega)]; exact c2), some_bind', nI_1, show (1 : Int32) = nI 1 from rfl, p1, some_bind', lt_eq, ← show (1 : Int32) = nI 1 from rfl, nI_1]
        exact ih (k + 1) n' _ (by omega) (by omega) (by rw [olds, if_pos ⟨c, by omega⟩]; exact hS.ag _ hk)
theorem m_deaths_L (hN : 5000 ≤ N) (hI : Inv a) {q : Nat} (hq : q ≤ 12) : ∀ (t k n : Nat) (d : MD), k + t = a_n a → t < n → SR (deaths a k) (m_s d) → m_asked d = enc q →
    ∃ s' h', f_X5_goesOn_L86 N n (nI (ndead a k)) (nI k) d = some (nI (ndead a (a_n a)), m3 d s' h' (ntd a q k t (m_noted d))) ∧ SR (a_set_y (deaths a (a_n a)) (a_y a + 1)) s' := by
  have hn := hI.1
  intro t
  induction t with
  | zero =>
    intro k n d h1 h2 hS hA
    obtain ⟨n', rfl⟩ : ∃ n', n = n' + 1 := ⟨n - 1, by omega⟩
    obtain rfl : k = a_n a := by omega
    obtain ⟨e1, e2, e3⟩ := deaths_ok hI (a_n a)
    rw [f_X5_goesOn_L86, m_n hS, some_bind', e1, if_pos (nI_le (Nat.le_refl _) (by omega)), m_y hS, some_bind', ck_at (i := (1 : Int32)) 1 rfl (by decide) (by decide), some_bind', lt_eq, nI_1, e3]
    exact ⟨upd (m_s d) 1 (nI (a_y a + 1)), m_heirThen d, rfl, hS.y _⟩
  | succ t ih =>
    intro k n d h1 h2 hS hA
    obtain ⟨n', rfl⟩ : ∃ n', n = n' + 1 := ⟨n - 1, by omega⟩
    obtain ⟨e1, e2, e3⟩ := deaths_ok hI k
    have hk : k < a_n (deaths a k) := by omega
    have b1 := e2.2.2.2.2 k hk
    rw [f_X5_goesOn_L86, m_n hS, some_bind', if_neg (nI_ge hk (by omega)), m_lives e2 hS hk, some_bind', ntd]
    have alive : ¬ dcond a k → ∃ s' h', f_X5_goesOn_L86 N n' (nI (ndead a k)) (nI (k + 1)) d = some (nI (ndead a (a_n a)), m3 d s' h' (ntd a q (k + 1) t (@ite _ (dcond a k ∧ q = k + 1) (Classical.propDecidable _) (enc (heir (dead (deaths a k) k) k)) (m_noted d)))) ∧ SR (a_set_y (deaths a (a_n a)) (a_y a + 1)) s' := by
      intro nc
      rw [if_neg (fun z => nc z.1)]
      have e : deaths a (k + 1) = deaths a k := by rw [deaths]; exact if_neg nc
      have e' : ndead a (k + 1) = ndead a k := by rw [ndead]; exact if_neg nc
      have z := ih (k + 1) n' d (by omega) (by omega) (by rw [e]; exact hS) hA
      rw [e'] at z
      exact z
    cases c : a_lv (deaths a k) k with
    | false =>
      rw [if_pos (by rfl), lt_eq, nI_1]
      exact alive (fun z => by rw [z.1] at c; cases c)
    | true =>
      rw [if_neg (by decide), m_ag e2 hS hk, some_bind', m_tm e2 hS hk, some_bind']
      by_cases c2 : a_ag (deaths a k) k < a_tm (deaths a k) k
      · rw [if_pos (by rw [nI_lt_iff (by omega) (by omega)]; exact c2), lt_eq, nI_1]
        exact alive (fun z => by have := z.2; omega)
      · rw [if_neg (by rw [nI_lt_iff (by omega) (by omega)]; exact c2)]
        have dc : dcond a k := ⟨c, by omega⟩
        obtain ⟨s1, q1, q2⟩ := m_die hN e2 hS hk
        have e : deaths a (k + 1) = die (deaths a k) k := by rw [deaths]; exact if_pos dc
        have e' : ndead a (k + 1) = ndead a k + 1 := by rw [ndead]; exact if_pos dc
        rw [q1, some_bind']
        have ha : m_asked (m_set_s (m_set_heirThen d (enc (heir (dead (deaths a k) k) k))) s1) = enc q := hA
        rw [ha]
        by_cases c3 : q = k + 1
        · rw [if_pos (by rw [c3, enc_s]), lt_eq, lt_eq, lt_eq, nI_1, nI_1, if_pos ⟨dc, c3⟩]
          have z := ih (k + 1) n' (m_set_noted (m_set_s (m_set_heirThen d (enc (heir (dead (deaths a k) k) k))) s1) (enc (heir (dead (deaths a k) k) k))) (by omega) (by omega) (by rw [e]; exact q2) hA
          rw [e'] at z
          exact z
        · rw [if_neg (fun z => c3 (by rw [eq_comm, enc_eq (by omega) (by omega)] at z; exact z)), lt_eq, lt_eq, lt_eq, nI_1, nI_1, if_neg (fun z => c3 z.2)]
          have z := ih (k + 1) n' (m_set_noted (m_set_s (m_set_heirThen d (enc (heir (dead (deaths a k) k) k))) s1) (m_noted (m_set_s (m_set_heirThen d (enc (heir (dead (deaths a k) k) k))) s1))) (by omega) (by omega) (by rw [e]; exact q2) hA
          rw [e'] at z
          exact z
/-- a year -/
theorem m_year (hN : 5000 ≤ N) (hI : Inv a) (hS : SR a (m_s d)) {q : Nat} (hq : q ≤ 12) (hA : m_asked d = enc q) : ∃ s' h', f_X5_goesOn N d = some (nI (yearD a), m3 d s' h' (ntd (yearA a) q 0 (a_n a) (m_noted d))) ∧ SR (year a) s' := by
  have hn := hI.1
  obtain ⟨a1, a2, a3⟩ := alters_ok hI (a_n a) (Nat.le_refl _)
  obtain ⟨y1, y2, y3⟩ := yearA_ok hI
  obtain ⟨s1, q1, q2⟩ := m_alters_L (d := d) hN hI (a_n a) 0 N (m_s d) (by omega) (by omega) hS
  obtain ⟨s2, r1, r2⟩ := m_olds_L (N := N) (d := d) a2 (a_n a) 0 N s1 (by omega) (by omega) q2
  have r2 : SR (yearA a) s2 := by unfold yearA; rw [a1] at r2; exact r2
  obtain ⟨s3, h3, t1, t2⟩ := m_deaths_L hN y2 hq (a_n a) 0 N (m_set_s d s2) (by omega) (by omega) r2 hA
  unfold f_X5_goesOn
  refine ⟨s3, h3, ?_, ?_⟩
  · have z := q1.trans (r1.trans t1)
    rw [y1] at z
    exact z
  · unfold year
    rw [y1, y3] at t2
    exact t2
theorem m_years_L (hN : 5000 ≤ N) (hI : Inv a) {n : Nat} (hn : a_y a + n ≤ 9999) (h100 : n ≤ 100) {q : Nat} (hq : q ≤ 12) : ∀ (t k f : Nat) (d : MD), k + t = n → t < f → SR (years a k) (m_s d) → m_asked d = enc q →
    ∃ s' h' n', f_X5_goesOnMany_L4 N f (nI n) (nI (yearsD a k)) (nI k) d = some (nI (yearsD a n), m3 d s' h' n') ∧ SR (years a n) s' := by
  intro t
  induction t with
  | zero =>
    intro k f d h1 h2 hS hA
    obtain ⟨n', rfl⟩ : ∃ n', f = n' + 1 := ⟨f - 1, by omega⟩
    obtain rfl : k = n := by omega
    rw [f_X5_goesOnMany_L4, if_pos (nI_le (Nat.le_refl _) (by omega))]
    exact ⟨m_s d, m_heirThen d, m_noted d, rfl, hS⟩
  | succ t ih =>
    intro k f d h1 h2 hS hA
    obtain ⟨n', rfl⟩ : ∃ n', f = n' + 1 := ⟨f - 1, by omega⟩
    obtain ⟨e1, e2, e3⟩ := years_ok hI k (by omega)
    rw [f_X5_goesOnMany_L4, if_neg (nI_ge (by omega) (by omega))]
    obtain ⟨s1, g1, q1, q2⟩ := m_year hN e2 hS hq hA
    rw [q1, bd2_some, lt_eq, lt_eq, nI_addn, nI_1]
    exact ih (k + 1) n' _ (by omega) (by omega) q2 hA
theorem m_years (hN : 5000 ≤ N) (hI : Inv a) (hS : SR a (m_s d)) {n : Nat} (hn : a_y a + n ≤ 9999) (h100 : n ≤ 100) {q : Nat} (hq : q ≤ 12) (hA : m_asked d = enc q) : ∃ s' h' n', f_X5_goesOnMany N (nI n) d = some (nI (yearsD a n), m3 d s' h' n') ∧ SR (years a n) s' := by
  unfold f_X5_goesOnMany
  exact m_years_L hN hI hn h100 hq n 0 N d (by omega) (by omega) hS hA
end MOD5
