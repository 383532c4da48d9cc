/-! ===== THE REFERENCE: changes, deaths, years ===== -/
def m3 (d : MD) (s : Nat → Int32) (h n : Int32) : MD := m_set_noted (m_set_heirThen (m_set_s d s) h) n
theorem hb_cong {a a' : AS} (h1 : ∀ k, a_lv a k = a_lv a' k) (h2 : ∀ i k, like a i k = like a' i k) (h3 : ∀ k, a_ag a k = a_ag a' k) (i b : Nat) : ∀ k, hb a i b k = hb a' i b k
  | 0 => rfl
  | k + 1 => by rw [hb, hb, hb_cong h1 h2 h3 i b k, h1, h2, h2, h3, h3]
theorem hb_setg (a : AS) (j x i b k : Nat) : hb (setg a j x) i b k = hb a i b k := hb_cong (a := setg a j x) (a' := a) (fun _ => rfl) (fun _ _ => rfl) (fun _ => rfl) i b k
theorem chg_aim {a : AS} {i : Nat} (h : chg a i ≠ 0) (hk : a_kd a i ≠ 2) : aim a i ≠ 0 := by
  intro c
  apply h
  have w : wish a i = 0 := by unfold wish; rw [if_neg hk, if_pos c]
  unfold chg
  rw [if_pos (Or.inl w)]
theorem chg_co {a : AS} {i : Nat} (h : chg a i ≠ 0) : a_co a (chg a i - 1) ≤ a_gd a i := by
  unfold chg at h ⊢
  by_cases c : wish a i = 0 ∨ a_gd a i < a_co a (wish a i - 1)
  · rw [if_pos c] at h; exact absurd rfl h
  · rw [if_neg c] at h ⊢; omega
theorem neww_le {a : AS} (hI : Inv a) {i m : Nat} (hi : i < a_n a) (hm : m < 9) (h : a_kd a i ≠ 2 → aim a i ≠ 0) : neww a i m ≤ 3 := by
  unfold neww
  by_cases c : a_kd a i = 2
  · rw [if_pos c]; omega
  · rw [if_neg c]
    have := aim_le hI hi
    exact (hI.2.2.2.2 (aim a i - 1) (by have := h c; omega)).2.2.2.2.2.2 m hm
theorem alter_n (a : AS) (i : Nat) : a_n (alter a i) = a_n a := by unfold alter; split <;> rfl
theorem alter_inv {a : AS} (hI : Inv a) {i : Nat} (hi : i < a_n a) : Inv (alter a i) := by
  unfold alter
  by_cases c : chg a i = 0
  · rw [if_pos c]; exact hI
  · rw [if_neg c]
    have := chg_le a i
    have h1 : Inv (setw a i (chg a i - 1) (neww a i (chg a i - 1))) := hI.wy (neww_le hI hi (by omega) (fun k => chg_aim c k))
    exact h1.gd (by have := (hI.2.2.2.2 i hi).2.2.1; omega)
theorem gain_inv {a : AS} (hI : Inv a) (i x : Nat) : Inv (gain a i x) := hI.gd (by split <;> omega)
theorem gain_n (a : AS) (i x : Nat) : a_n (gain a i x) = a_n a := rfl
theorem die_n (a : AS) (i : Nat) : a_n (die a i) = a_n a := by unfold die; split; rfl; split <;> rfl
theorem die_inv {a : AS} (hI : Inv a) (i : Nat) : Inv (die a i) := by
  have h1 : Inv (dead a i) := hI
  have h2 : Inv (setg (dead a i) i 0) := h1.gd (by omega)
  unfold die
  split
  · exact h2
  · split
    · exact gain_inv (gain_inv h2 _ _) _ _
    · exact gain_inv h2 _ _
section MOD4
variable {N : Nat} {d : MD} {a : AS}
theorem m_alter (hN : 5000 ≤ N) (hI : Inv a) (hS : SR a (m_s d)) {i : Nat} (hi : i < a_n a) : ∃ s', f_X5_alters N (nI i) d = some (m_set_s d s') ∧ SR (alter a i) s' := by
  have hn := hI.1
  have hc := chg_le a i
  unfold f_X5_alters alter
  rw [m_chg hN hI hS hi, some_bind']
  by_cases c : chg a i = 0
  · rw [if_pos (by rw [enc_neg (by omega)]; exact c), if_pos c]
    exact ⟨m_s d, rfl, hS⟩
  rw [if_neg (by rw [enc_neg (by omega)]; exact c), if_neg c, m_kd hI hS hi, some_bind', enc_pos c]
  obtain ⟨m, hm⟩ : ∃ m, chg a i = m + 1 := ⟨chg a i - 1, by omega⟩
  rw [hm, Nat.add_sub_cancel]
  have hm9 : m < 9 := by omega
  have hco := chg_co c
  rw [hm, Nat.add_sub_cancel] at hco
  have hnw : neww a i m ≤ 3 := neww_le hI hi hm9 (fun k => chg_aim c k)
  have hI1 : Inv (setw a i m (neww a i m)) := hI.wy hnw
  have fin : f_X5_alters_J49 N (nI i) (nI m) (nI (neww a i m)) d = some (m_set_s d (upd (upd (m_s d) (21 + 15 * i + (6 + m)) (nI (neww a i m))) (21 + 15 * i + 2) (nI (a_gd a i - a_co a m)))) := by
    have hS1 : SR (setw a i m (neww a i m)) (m_s (m_set_s d (upd (m_s d) (21 + 15 * i + (6 + m)) (nI (neww a i m))))) := hS.wy _ hi hm9
    have g1 : f_X5_is N (nI i) (2 : Int32) (m_set_s d (upd (m_s d) (21 + 15 * i + (6 + m)) (nI (neww a i m)))) = some (nI (a_gd a i)) := m_gd hI1 hS1 hi
    have g2 : rd (m_s (m_set_s d (upd (m_s d) (21 + 15 * i + (6 + m)) (nI (neww a i m))))) 201 ((12 : Int32) + nI m) = some (nI (a_co a m)) := m_co hS1 hm9
    unfold f_X5_alters_J49
    rw [lit_nI 6, nI_addn, m_puts N d (by omega) (by omega), some_bind', g1, some_bind', g2, some_bind', pk_sub hco]
    have g3 := m_puts N (m_set_s d (upd (m_s d) (21 + 15 * i + (6 + m)) (nI (neww a i m)))) (k := i) (w := 2) (by omega) (by omega) (nI (a_gd a i - a_co a m))
    rw [show (2 : Int32) = nI 2 from rfl, g3]
    rfl
  have hS2 : SR (setg (setw a i m (neww a i m)) i (a_gd a i - a_co a m)) (upd (upd (m_s d) (21 + 15 * i + (6 + m)) (nI (neww a i m))) (21 + 15 * i + 2) (nI (a_gd a i - a_co a m))) := SR.gd (hS.wy _ hi hm9) _ hi
  by_cases k2 : a_kd a i = 2
  · rw [if_pos (by rw [k2]; rfl), m_wy hI hS hi hm9, some_bind']
    have e : (nI (a_wy a i m) + (1 : Int32)) - (nI (a_wy a i m) + (1 : Int32)) / (4 : Int32) * (4 : Int32) = nI (neww a i m) := by
      have b := (hI.2.2.2.2 i hi).2.2.2.2.2.2 m hm9
      rw [nI_1, show (4 : Int32) = nI 4 from rfl, pk_rem (by omega) (by omega) (by omega)]
      unfold neww
      rw [if_pos k2]
    rw [e, fin]
    exact ⟨_, rfl, hS2⟩
  · have ha := chg_aim c k2
    have hal := aim_le hI hi
    rw [if_neg (by rw [lit_nI 2, nI_eq_iff (by have := (hI.2.2.2.2 i hi).1; omega) (by decide)]; exact k2), m_aim hN hI hS hi, some_bind', enc_pos ha, m_wy hI hS (by omega) hm9, some_bind']
    have e : a_wy a (aim a i - 1) m = neww a i m := by unfold neww; rw [if_neg k2]
    rw [e, fin]
    exact ⟨_, rfl, hS2⟩
theorem m_gain (hI : Inv a) (hS : SR a (m_s d)) {i x : Nat} (hi : i < a_n a) (hx : x ≤ 999999) : ∃ s', f_X5_gains N (nI i) (nI x) d = some (m_set_s d s') ∧ SR (gain a i x) s' := by
  have hn := hI.1
  have hg := (hI.2.2.2.2 i hi).2.2.1
  have p1 := fun y => m_puts N d (k := i) (w := 2) (by omega) (by omega) y
  unfold f_X5_gains gain
  rw [m_gd hI hS hi, some_bind', lt_eq, nI_addn]
  by_cases c : a_gd a i + x ≤ 999999
  · rw [if_pos (by rw [lit_nI 999999, nI_le_iff (by omega) (by decide)]; exact c), if_neg (by omega), show (2 : Int32) = nI 2 from rfl, p1, some_bind']
    exact ⟨_, rfl, hS.gd _ hi⟩
  · rw [if_neg (by rw [lit_nI 999999, nI_le_iff (by omega) (by decide)]; exact c), if_pos (by omega), show (2 : Int32) = nI 2 from rfl, p1, some_bind']
    exact ⟨_, rfl, hS.gd 999999 hi⟩
theorem m_die (hN : 5000 ≤ N) (hI : Inv a) (hS : SR a (m_s d)) {i : Nat} (hi : i < a_n a) : ∃ s', f_X5_ends N (nI i) d = some (m_set_s (m_set_heirThen d (enc (heir (dead a i) i))) s') ∧ SR (die a i) s' := by
  have hn := hI.1
  have hg := (hI.2.2.2.2 i hi).2.2.1
  have hI1 : Inv (dead a i) := hI
  have hl := heir_le (dead a i) i
  have hln : a_n (dead a i) = a_n a := rfl
  have p1 := m_puts N d (k := i) (w := 5) (by omega) (by omega) 0
  have hS1 : SR (dead a i) (m_s (m_set_s d (upd (m_s d) (21 + 15 * i + 5) 0))) := hS.lv false hi
  have hI2 : Inv (setg (dead a i) i 0) := hI1.gd (by omega)
  unfold f_X5_ends
  rw [show (5 : Int32) = nI 5 from rfl, p1, some_bind', m_heir hN hI1 hS1 hi, some_bind', lt_eq]
  generalize hd5 : m_set_heirThen (m_set_s d (upd (m_s d) (21 + 15 * i + 5) 0)) (enc (heir (dead a i) i)) = d5
  have e5 : m_s d5 = upd (m_s d) (21 + 15 * i + 5) 0 := by rw [← hd5]; rfl
  have hS5 : SR (dead a i) (m_s d5) := by rw [e5]; exact hS1
  have z5 : ∀ s, m_set_s d5 s = m_set_s (m_set_heirThen d (enc (heir (dead a i) i))) s := fun s => by rw [← hd5]; rfl
  have p2 := m_puts N d5 (k := i) (w := 2) (by omega) (by omega) 0
  have g5 : f_X5_is N (nI i) (2 : Int32) d5 = some (nI (a_gd a i)) := m_gd hI1 hS5 hi
  have hS8 : SR (setg (dead a i) i 0) (m_s (m_set_s d5 (upd (m_s d5) (21 + 15 * i + 2) 0))) := hS5.gd 0 hi
  rw [g5, some_bind', show (2 : Int32) = nI 2 from rfl, p2, some_bind']
  unfold die
  by_cases c : heir (dead a i) i = 0
  · rw [if_neg (by rw [enc_nn (by omega)]; exact fun z => z c), if_pos c]
    exact ⟨upd (m_s d5) (21 + 15 * i + 2) 0, by rw [z5], hS8⟩
  rw [if_pos (by rw [enc_nn (by omega)]; exact c), if_neg c]
  obtain ⟨h, hh⟩ : ∃ h, heir (dead a i) i = h + 1 := ⟨heir (dead a i) i - 1, by omega⟩
  rw [hh, Nat.add_sub_cancel, enc_s]
  have hh' : h < a_n a := by omega
  have z6 : ∀ s, m_set_s d5 s = m_set_s (m_set_heirThen d (nI h)) s := fun s => by rw [z5, hh, enc_s]
  have gen : ∀ (o : Nat), o ≤ a_n a → ∃ s', f_X5_ends_J57 N (nI h) (nI (a_gd a i)) (enc o) (m_set_s d5 (upd (m_s d5) (21 + 15 * i + 2) 0)) = some (m_set_s d5 s') ∧ SR (if o = 0 then gain (setg (dead a i) i 0) h (a_gd a i) else gain (gain (setg (dead a i) i 0) h (a_gd a i - a_gd a i / 2)) (o - 1) (a_gd a i / 2)) s' := by
    intro o ho
    unfold f_X5_ends_J57
    by_cases co : o = 0
    · rw [if_neg (by rw [enc_nn (by omega)]; exact fun z => z co), if_pos co]
      obtain ⟨s', q1, q2⟩ := m_gain (N := N) hI2 hS8 (i := h) (x := a_gd a i) hh' (by omega)
      rw [q1, some_bind']
      exact ⟨s', rfl, q2⟩
    · rw [if_pos (by rw [enc_nn (by omega)]; exact co), if_neg co, show (2 : Int32) = nI 2 from rfl, pk_div (by omega) (by omega) (by omega), pk_sub (by omega)]
      obtain ⟨s1, q1, q2⟩ := m_gain (N := N) hI2 hS8 (i := h) (x := a_gd a i - a_gd a i / 2) hh' (by omega)
      rw [q1, some_bind', enc_pos co]
      obtain ⟨s2, r1, r2⟩ := m_gain (N := N) (d := m_set_s (m_set_s d5 (upd (m_s d5) (21 + 15 * i + 2) 0)) s1) (gain_inv hI2 h (a_gd a i - a_gd a i / 2)) q2 (i := o - 1) (x := a_gd a i / 2) (show o - 1 < a_n a by omega) (by omega)
      rw [r1, some_bind']
      exact ⟨s2, rfl, r2⟩
  have ml : rd (m_s (m_set_s d5 (upd (m_s d5) (21 + 15 * i + 2) 0))) 201 (nI 2) = some (nI (a_l a)) := m_l (a := setg (dead a i) i 0) hS8
  rw [ml, some_bind']
  by_cases c2 : a_l a = 2
  · rw [if_pos (by rw [c2]), m_heirBut hN hI2 hS8 hi hh', some_bind', hb_setg]
    have hbl : hb (dead a i) i h (a_n (setg (dead a i) i 0)) ≤ a_n a := hb_le _ _ _ _
    obtain ⟨s', q1, q2⟩ := gen (hb (dead a i) i h (a_n (setg (dead a i) i 0))) hbl
    refine ⟨s', by rw [q1, z6], ?_⟩
    have en : a_n (setg (dead a i) i 0) = a_n a := rfl
    rw [en] at q2
    by_cases c3 : hb (dead a i) i h (a_n a) = 0
    · rw [if_pos c3] at q2
      rw [if_neg (fun z => z.2 c3)]
      exact q2
    · rw [if_neg c3] at q2
      rw [if_pos ⟨c2, c3⟩]
      exact q2
  · rw [if_neg (by rw [nI_eq_iff (by have := hI.2.2.1; omega) (by decide)]; exact c2)]
    obtain ⟨s', q1, q2⟩ := gen 0 (by omega)
    rw [if_pos rfl] at q2
    rw [if_neg (fun z => c2 z.1)]
    exact ⟨s', by rw [← z6]; exact q1, q2⟩
end MOD4
