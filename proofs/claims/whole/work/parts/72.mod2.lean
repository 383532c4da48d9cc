section MOD2
variable {N : Nat} {d : MD} {a : AS}
theorem nI_sub_pos {x y : Nat} (hx : x ≤ 1000000) (hy : y ≤ 1000000) : (0 < nI x - nI y) = (y < x) := by
  apply propext
  have e : (nI x - nI y).toInt = (x : Int) - y := pk_sub_toInt (by omega) (by omega)
  rw [fa_lt', e]
  show (0 : Int) < _ ↔ _
  omega
theorem nI_sub_0 {x y : Nat} (hx : x ≤ 1000000) (hy : y ≤ 1000000) : (nI x - nI y = 0) = (x = y) := by
  apply propext
  have e : (nI x - nI y).toInt = (x : Int) - y := pk_sub_toInt (by omega) (by omega)
  rw [← Int32.toInt_inj, e]
  show _ = (0 : Int) ↔ _
  omega
/-- heirBut: its loop -/
theorem m_heir_L (hN : 5000 ≤ N) (hI : Inv a) (hS : SR a (m_s d)) {i b : Nat} (hi : i < a_n a) (hb' : b < a_n a) : ∀ (t k n : Nat), k + t = a_n a → t < n →
    f_X5_heirBut_L5 N d n (nI i) (nI b) (enc (hb a i b k)) (nI k) = some (enc (hb a i b (a_n a))) := by
  have hn := hI.1
  intro t
  induction t with
  | zero =>
    intro k n h1 h2
    obtain ⟨n', rfl⟩ : ∃ n', n = n' + 1 := ⟨n - 1, by omega⟩
    obtain rfl : k = a_n a := by omega
    rw [f_X5_heirBut_L5, m_n hS, some_bind', if_pos (nI_le (Nat.le_refl _) (by omega))]
  | succ t ih =>
    intro k n h1 h2
    obtain ⟨n', rfl⟩ : ∃ n', n = n' + 1 := ⟨n - 1, by omega⟩
    have hk : k < a_n a := by omega
    have ih' := ih (k + 1) n' (by omega) (by omega)
    have le := hb_le a i b k
    rw [f_X5_heirBut_L5, m_n hS, some_bind', if_neg (nI_ge hk (by omega))]
    rw [hb] at ih'
    by_cases c1 : k = i
    · rw [if_pos (by rw [c1]), lt_eq, nI_1]
      rw [if_pos (Or.inl c1)] at ih'
      exact ih'
    rw [if_neg (by rw [nI_eq_iff (by omega) (by omega)]; exact c1)]
    by_cases c2 : k = b
    · rw [if_pos (by rw [c2]), lt_eq, nI_1]
      rw [if_pos (Or.inr (Or.inl c2))] at ih'
      exact ih'
    rw [if_neg (by rw [nI_eq_iff (by omega) (by omega)]; exact c2), m_lives hI hS hk, some_bind']
    cases c3 : a_lv a k with
    | false =>
      rw [if_pos (by rfl), lt_eq, nI_1]
      rw [if_pos (Or.inr (Or.inr c3))] at ih'
      exact ih'
    | true =>
      rw [if_neg (by decide)]
      rw [if_neg (show ¬ (k = i ∨ k = b ∨ a_lv a k = false) by rw [c3]; simp [c1, c2])] at ih'
      by_cases c4 : hb a i b k = 0
      · rw [if_neg (by rw [enc_nn (by omega)]; exact fun z => z c4)]
        rw [if_pos (Or.inl c4), enc_s] at ih'
        unfold f_X5_heirBut_J62
        rw [if_pos (by decide), lt_eq, nI_1]
        exact ih'
      · rw [if_pos (by rw [enc_nn (by omega)]; exact c4)]
        obtain ⟨o, ho⟩ : ∃ o, hb a i b k = o + 1 := ⟨hb a i b k - 1, by omega⟩
        have ho' : o < a_n a := by omega
        rw [ho] at ih' ⊢
        rw [enc_s, m_like hN hI hS hi hk, some_bind', m_like hN hI hS hi ho', some_bind']
        have l1 := like_le hI i k
        have l2 := like_le hI i o
        have g1 := (hI.2.2.2.2 k hk).2.1
        have g2 := (hI.2.2.2.2 o ho').2.1
        simp only [Nat.add_sub_cancel, Nat.succ_ne_zero, false_or] at ih'
        unfold f_X5_heirBut_J62
        by_cases c5 : like a i o < like a i k
        · rw [if_pos (by rw [nI_sub_pos (by omega) (by omega)]; exact c5), lt_eq, nI_1]
          rw [if_pos (Or.inl c5), enc_s] at ih'
          exact ih'
        · rw [if_neg (by rw [nI_sub_pos (by omega) (by omega)]; exact c5)]
          by_cases c6 : like a i k = like a i o
          · rw [if_pos (by rw [nI_sub_0 (by omega) (by omega)]; exact c6), m_ag hI hS hk, some_bind', m_ag hI hS ho', some_bind']
            by_cases c7 : a_ag a k ≤ a_ag a o
            · rw [if_pos (by rw [nI_le_iff (by omega) (by omega)]; exact c7), lt_eq, nI_1]
              rw [if_neg (by omega), enc_s] at ih'
              exact ih'
            · rw [if_neg (by rw [nI_le_iff (by omega) (by omega)]; exact c7), lt_eq, nI_1]
              rw [if_pos (Or.inr ⟨c6.symm, by omega⟩), enc_s] at ih'
              exact ih'
          · rw [if_neg (by rw [nI_sub_0 (by omega) (by omega)]; exact c6), lt_eq, nI_1]
            rw [if_neg (by omega), enc_s] at ih'
            exact ih'
theorem m_heirBut (hN : 5000 ≤ N) (hI : Inv a) (hS : SR a (m_s d)) {i b : Nat} (hi : i < a_n a) (hb' : b < a_n a) : f_X5_heirBut N (nI i) (nI b) d = some (enc (hb a i b (a_n a))) := by
  have hn := hI.1
  unfold f_X5_heirBut
  exact m_heir_L hN hI hS hi hb' (a_n a) 0 N (by omega) (by omega)
theorem m_heir (hN : 5000 ≤ N) (hI : Inv a) (hS : SR a (m_s d)) {i : Nat} (hi : i < a_n a) : f_X5_heirFor N (nI i) d = some (enc (heir a i)) := by
  unfold f_X5_heirFor
  rw [m_heirBut hN hI hS hi hi]
  rfl
/-- richestBut: its loop; i + 1 is left out (0: nobody) -/
theorem m_rich_L (hI : Inv a) (hS : SR a (m_s d)) {i : Nat} (hi : i ≤ a_n a) : ∀ (t k n : Nat), k + t = a_n a → t < n →
    f_X5_richestBut_L4 N d n (enc i) (enc (rb a i k)) (nI k) = some (enc (rb a i (a_n a))) := by
  have hn := hI.1
  intro t
  induction t with
  | zero =>
    intro k n h1 h2
    obtain ⟨n', rfl⟩ : ∃ n', n = n' + 1 := ⟨n - 1, by omega⟩
    obtain rfl : k = a_n a := by omega
    rw [f_X5_richestBut_L4, m_n hS, some_bind', if_pos (nI_le (Nat.le_refl _) (by omega))]
  | succ t ih =>
    intro k n h1 h2
    obtain ⟨n', rfl⟩ : ∃ n', n = n' + 1 := ⟨n - 1, by omega⟩
    have hk : k < a_n a := by omega
    have ih' := ih (k + 1) n' (by omega) (by omega)
    have le := rb_le a i k
    rw [f_X5_richestBut_L4, m_n hS, some_bind', if_neg (nI_ge hk (by omega))]
    rw [rb] at ih'
    have no : rb a i (k + 1) = rb a i k → f_X5_richestBut_J50 N d (f_X5_richestBut_L4 N d n') (enc i) (enc (rb a i k)) (nI k) = some (enc (rb a i (a_n a))) := by
      intro e
      have ih2 := ih (k + 1) n' (by omega) (by omega)
      rw [e] at ih2
      unfold f_X5_richestBut_J50 f_X5_richestBut_J51
      rw [if_pos rfl, lt_eq, nI_1]
      exact ih2
    have yes : rb a i (k + 1) = k + 1 → f_X5_richestBut_J46 N d (f_X5_richestBut_L4 N d n') (enc i) (enc (rb a i k)) (nI k) = some (enc (rb a i (a_n a))) := by
      intro e
      have ih2 := ih (k + 1) n' (by omega) (by omega)
      rw [e, enc_s] at ih2
      unfold f_X5_richestBut_J46 f_X5_richestBut_J51
      rw [if_neg (by decide), lt_eq, nI_1]
      exact ih2
    by_cases c1 : k + 1 = i
    · rw [if_pos (by rw [← c1, enc_s])]
      exact no (by rw [rb, if_pos (Or.inl c1)])
    rw [if_neg (fun z => c1 (by rw [eq_comm, enc_eq (by omega) (by omega)] at z; omega)), m_lives hI hS hk, some_bind']
    cases c3 : a_lv a k with
    | false =>
      rw [if_pos (by rfl)]
      exact no (by rw [rb, if_pos (Or.inr c3)])
    | true =>
      rw [if_neg (by decide)]
      have c13 : ¬ (k + 1 = i ∨ a_lv a k = false) := by rw [c3]; simp [c1]
      by_cases c4 : rb a i k = 0
      · rw [if_pos (by rw [enc_neg (by omega)]; exact c4)]
        exact yes (by rw [rb, if_neg c13, if_pos (Or.inl c4)])
      · rw [if_neg (by rw [enc_neg (by omega)]; exact c4)]
        obtain ⟨o, ho⟩ : ∃ o, rb a i k = o + 1 := ⟨rb a i k - 1, by omega⟩
        have ho' : o < a_n a := by omega
        have g1 := (hI.2.2.2.2 k hk).2.2.1
        have g2 := (hI.2.2.2.2 o ho').2.2.1
        rw [m_gd hI hS hk, some_bind', show enc (rb a i k) = nI o by rw [ho, enc_s], m_gd hI hS ho', some_bind', ← enc_s o, ← ho]
        by_cases c5 : a_gd a k ≤ a_gd a o
        · rw [if_pos (by rw [nI_le_iff (by omega) (by omega)]; exact c5)]
          exact no (by rw [rb, if_neg c13, ho, if_neg (by simp only [Nat.add_sub_cancel]; omega)])
        · rw [if_neg (by rw [nI_le_iff (by omega) (by omega)]; exact c5)]
          exact yes (by rw [rb, if_neg c13, ho, if_pos (by simp only [Nat.add_sub_cancel]; omega)])
theorem m_rich (hN : 5000 ≤ N) (hI : Inv a) (hS : SR a (m_s d)) {i : Nat} (hi : i ≤ a_n a) : f_X5_richestBut N (enc i) d = some (enc (rb a i (a_n a))) := by
  have hn := hI.1
  unfold f_X5_richestBut
  exact m_rich_L hI hS hi (a_n a) 0 N (by omega) (by omega)
theorem kidOf_le {a : AS} (hI : Inv a) {i : Nat} (hi : i < a_n a) : kidOf a i ≤ a_n a := by
  unfold kidOf
  split
  · omega
  · exact (hI.2.2.2.2 i hi).2.2.2.2.2.1
theorem m_child (hI : Inv a) (hS : SR a (m_s d)) {i : Nat} (hi : i < a_n a) : f_X5_childOf N (nI i) d = some (enc (kidOf a i)) := by
  have hn := hI.1
  have hc := (hI.2.2.2.2 i hi).2.2.2.2.2.1
  unfold f_X5_childOf kidOf
  rw [m_ch hI hS hi, some_bind']
  by_cases c : a_ch a i = 0
  · rw [if_pos (by rw [enc_neg (by omega)]; exact c), if_pos (Or.inl c)]
    rfl
  · rw [if_neg (by rw [enc_neg (by omega)]; exact c)]
    obtain ⟨o, ho⟩ : ∃ o, a_ch a i = o + 1 := ⟨a_ch a i - 1, by omega⟩
    have ho' : o < a_n a := by omega
    rw [ho, enc_s, m_lives hI hS ho', some_bind']
    simp only [Nat.add_sub_cancel, Nat.succ_ne_zero, false_or]
    cases a_lv a o with
    | false => rw [if_pos (by rfl), if_pos rfl]; rfl
    | true => rw [if_neg (by decide), if_neg (by decide), enc_s]
theorem m_aim (hN : 5000 ≤ N) (hI : Inv a) (hS : SR a (m_s d)) {i : Nat} (hi : i < a_n a) : f_X5_aimOf N (nI i) d = some (enc (aim a i)) := by
  have hn := hI.1
  have hk := (hI.2.2.2.2 i hi).1
  have hr := m_rich (N := N) hN hI hS (i := i + 1) (by omega)
  rw [enc_s] at hr
  have e : ∀ c : Nat, c < 100 → ((nI (a_kd a i) = nI c) = (a_kd a i = c)) := fun c hc => nI_eq_iff (by omega) (by omega)
  unfold f_X5_aimOf aim
  rw [m_kd hI hS hi, some_bind', lit_nI 1, lit_nI 2, lit_nI 3, lit_nI 4, lit_nI 5]
  simp only [e 1 (by decide), e 2 (by decide), e 3 (by decide), e 4 (by decide), e 5 (by decide)]
  by_cases c1 : a_kd a i = 1
  · rw [if_pos c1, if_pos (Or.inl c1), hr]; rfl
  rw [if_neg c1]
  by_cases c2 : a_kd a i = 2
  · rw [if_pos c2, if_neg (by omega), if_neg (by omega), if_neg (by omega)]; rfl
  rw [if_neg c2]
  by_cases c3 : a_kd a i = 3
  · rw [if_pos c3, if_neg (by omega), if_pos c3, m_child hI hS hi]; rfl
  rw [if_neg c3]
  by_cases c4 : a_kd a i = 4
  · rw [if_pos c4, if_pos (Or.inr c4), hr]; rfl
  rw [if_neg c4, if_neg (show ¬ (a_kd a i = 1 ∨ a_kd a i = 4) by omega), if_neg c3]
  by_cases c5 : a_kd a i = 5
  · rw [if_pos c5, if_pos c5, m_child hI hS hi, some_bind']
    have kl := kidOf_le hI hi
    by_cases c6 : kidOf a i = 0
    · rw [if_neg (by rw [enc_nn (by omega)]; exact fun z => z c6), if_pos c6, m_heir hN hI hS hi]; rfl
    · rw [if_pos (by rw [enc_nn (by omega)]; exact c6), if_neg c6]; rfl
  · rw [if_neg c5, if_neg c5]; rfl
end MOD2
