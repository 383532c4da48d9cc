theorem cl_1 : ((1 : Int32)).toNatClampNeg = 1 := by decide
/-- what no year changes -/
def KM (d d' : MD) : Prop := m_kept d' = m_kept d ∧ m_close d' = m_close d ∧ m_isKept d' = m_isKept d ∧ m_findings d' = m_findings d ∧ m_tape d' = m_tape d ∧ m_taped d' = m_taped d ∧ m_bitsOf d' = m_bitsOf d ∧ m_sizes d' = m_sizes d ∧ m_numbers d' = m_numbers d ∧ m_asked d' = m_asked d
theorem KM.rf (d : MD) : KM d d := ⟨rfl, rfl, rfl, rfl, rfl, rfl, rfl, rfl, rfl, rfl⟩
theorem KM.tr {d e f : MD} (h : KM d e) (k : KM e f) : KM d f := by
  obtain ⟨h1, h2, h3, h4, h5, h6, h7, h8, h9, h10⟩ := h
  obtain ⟨k1, k2, k3, k4, k5, k6, k7, k8, k9, k10⟩ := k
  exact ⟨k1.trans h1, k2.trans h2, k3.trans h3, k4.trans h4, k5.trans h5, k6.trans h6, k7.trans h7, k8.trans h8, k9.trans h9, k10.trans h10⟩
theorem KM.s (d : MD) (s) : KM d (m_set_s d s) := ⟨rfl, rfl, rfl, rfl, rfl, rfl, rfl, rfl, rfl, rfl⟩
theorem KM.h (d : MD) (x) : KM d (m_set_heirThen d x) := ⟨rfl, rfl, rfl, rfl, rfl, rfl, rfl, rfl, rfl, rfl⟩
theorem KM.n (d : MD) (x) : KM d (m_set_noted d x) := ⟨rfl, rfl, rfl, rfl, rfl, rfl, rfl, rfl, rfl, rfl⟩
section MOD5c
variable {N : Nat} {d : MD} {a : AS}
theorem m_deaths_L (hN : 5000 ≤ N) (hI : Inv a) {q : Nat} (hq : q ≤ 12) : ∀ (t k n : Nat) (d : MD), k + t = a_n a → t < n → SR (deaths a k) (m_s d) → m_asked d = enc q →
    ∃ d', f_X5_goesOn_L86 N n (nI (ndead a k)) (nI k) d = some (nI (ndead a (a_n a)), d') ∧ SR (a_set_y (deaths a (a_n a)) (a_y a + 1)) (m_s d') ∧ m_noted d' = ntd a q k t (m_noted d) ∧ KM d d' := by
  have hn := hI.1
  intro t
  induction t with
  | zero =>
    intro k n d h1 h2 hS hA
    obtain ⟨n', rfl⟩ : ∃ n', n = n' + 1 := ⟨n - 1, by omega⟩
    obtain rfl : k = a_n a := by omega
    obtain ⟨e1, e2, e3⟩ := deaths_ok hI (a_n a)
    rw [f_X5_goesOn_L86, m_n hS, some_bind', e1, if_pos (nI_le (Nat.le_refl _) (by omega)), m_y hS, some_bind', ck_at (i := (1 : Int32)) 1 rfl (by decide) (by decide), some_bind', lt_eq, nI_1, e3, cl_1]
    exact ⟨_, rfl, hS.y _, rfl, KM.s _ _⟩
  | succ t ih =>
    intro k n d h1 h2 hS hA
    obtain ⟨n', rfl⟩ : ∃ n', n = n' + 1 := ⟨n - 1, by omega⟩
    obtain ⟨e1, e2, e3⟩ := deaths_ok hI k
    have hk : k < a_n (deaths a k) := by omega
    have b1 := e2.2.2.2.2 k hk
    rw [f_X5_goesOn_L86, m_n hS, some_bind', if_neg (nI_ge hk (by omega)), m_lives e2 hS hk, some_bind', ntd]
    have alive : ¬ dcond a k → ∃ d', f_X5_goesOn_L86 N n' (nI (ndead a k)) (nI (k + 1)) d = some (nI (ndead a (a_n a)), d') ∧ SR (a_set_y (deaths a (a_n a)) (a_y a + 1)) (m_s d') ∧ m_noted d' = ntd a q (k + 1) t (@ite _ (dcond a k ∧ q = k + 1) (Classical.propDecidable _) (enc (heir (dead (deaths a k) k) k)) (m_noted d)) ∧ KM d d' := by
      intro nc
      rw [if_neg (fun z => nc z.1)]
      have e : deaths a (k + 1) = deaths a k := by rw [deaths]; exact if_neg nc
      have e' : ndead a (k + 1) = ndead a k := by rw [ndead]; exact if_neg nc
      have z := ih (k + 1) n' d (by omega) (by omega) (by rw [e]; exact hS) hA
      rw [e'] at z
      exact z
    cases c : a_lv (deaths a k) k with
    | false =>
      rw [if_pos (by rfl), lt_eq, nI_1]
      exact alive (fun z => by rw [z.1] at c; cases c)
    | true =>
      rw [if_neg (by decide), m_ag e2 hS hk, some_bind', m_tm e2 hS hk, some_bind']
      by_cases c2 : a_ag (deaths a k) k < a_tm (deaths a k) k
      · rw [if_pos (by rw [nI_lt_iff (by omega) (by omega)]; exact c2), lt_eq, nI_1]
        exact alive (fun z => by have := z.2; omega)
      · rw [if_neg (by rw [nI_lt_iff (by omega) (by omega)]; exact c2)]
        have dc : dcond a k := ⟨c, by omega⟩
        obtain ⟨s1, q1, q2⟩ := m_die hN e2 hS hk
        have e : deaths a (k + 1) = die (deaths a k) k := by rw [deaths]; exact if_pos dc
        have e' : ndead a (k + 1) = ndead a k + 1 := by rw [ndead]; exact if_pos dc
        rw [q1, some_bind']
        have ha : m_asked (m_set_s (m_set_heirThen d (enc (heir (dead (deaths a k) k) k))) s1) = enc q := hA
        rw [ha]
        by_cases c3 : q = k + 1
        · rw [if_pos (by rw [c3, enc_s]), lt_eq, lt_eq, lt_eq, nI_1, nI_1, if_pos ⟨dc, c3⟩]
          obtain ⟨d', z1, z2, z3, z4⟩ := ih (k + 1) n' (m_set_noted (m_set_s (m_set_heirThen d (enc (heir (dead (deaths a k) k) k))) s1) (enc (heir (dead (deaths a k) k) k))) (by omega) (by omega) (by rw [e]; exact q2) hA
          rw [e'] at z1
          exact ⟨d', z1, z2, z3, (((KM.h _ _).tr (KM.s _ _)).tr (KM.n _ _)).tr z4⟩
        · rw [if_neg (fun z => c3 (by rw [eq_comm, enc_eq (by omega) (by omega)] at z; exact z)), lt_eq, lt_eq, lt_eq, nI_1, nI_1, if_neg (fun z => c3 z.2)]
          obtain ⟨d', z1, z2, z3, z4⟩ := ih (k + 1) n' (m_set_noted (m_set_s (m_set_heirThen d (enc (heir (dead (deaths a k) k) k))) s1) (m_noted (m_set_s (m_set_heirThen d (enc (heir (dead (deaths a k) k) k))) s1))) (by omega) (by omega) (by rw [e]; exact q2) hA
          rw [e'] at z1
          exact ⟨d', z1, z2, z3, (((KM.h _ _).tr (KM.s _ _)).tr (KM.n _ _)).tr z4⟩
end MOD5c
