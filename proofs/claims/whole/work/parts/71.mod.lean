/-! ===== THE REFERENCE over the plain numbers: what asks ===== -/
theorem ix_nI (k w : Nat) : ((21 : Int32) + ((15 : Int32) * nI k)) + nI w = nI (21 + 15 * k + w) := by
  rw [lit_nI 21, lit_nI 15, nI_muln, nI_addn, nI_addn]
theorem rd_at {f : Nat → Int32} {n : Nat} {i : Int32} (k : Nat) (e : i = nI k) (h : k < n) (hn : n < 2147483648) : rd f n i = some (f k) := by rw [e]; exact rd_nI h hn
theorem ck_at {n : Nat} {i : Int32} (k : Nat) (e : i = nI k) (h : k < n) (hn : n < 2147483648) : ck i n = some () := by rw [e]; exact ck_nI h hn
theorem m_is (N : Nat) (d : MD) {k w : Nat} (hk : k < 12) (hw : w < 15) : f_X5_is N (nI k) (nI w) d = some (m_s d (21 + 15 * k + w)) := by
  unfold f_X5_is
  rw [ix_nI, rd_nI (by omega) (by decide)]
  rfl
section MOD1
variable {N : Nat} {d : MD} {a : AS}
theorem m_n (hS : SR a (m_s d)) : rd (m_s d) 201 (0 : Int32) = some (nI (a_n a)) := by
  rw [rd_at (i := (0 : Int32)) 0 rfl (by decide) (by decide), hS.1]
theorem m_l (hS : SR a (m_s d)) : rd (m_s d) 201 (2 : Int32) = some (nI (a_l a)) := by
  rw [rd_at (i := (2 : Int32)) 2 rfl (by decide) (by decide), hS.2.2.1]
theorem m_y (hS : SR a (m_s d)) : rd (m_s d) 201 (1 : Int32) = some (nI (a_y a)) := by
  rw [rd_at (i := (1 : Int32)) 1 rfl (by decide) (by decide), hS.2.1]
theorem m_wt (hS : SR a (m_s d)) {m : Nat} (hm : m < 9) : rd (m_s d) 201 ((3 : Int32) + nI m) = some (nI (a_wt a m)) := by
  rw [rd_at (3 + m) (by rw [lit_nI 3, nI_addn]) (by omega) (by decide), (hS.2.2.2.1 m hm).1]
theorem m_co (hS : SR a (m_s d)) {m : Nat} (hm : m < 9) : rd (m_s d) 201 ((12 : Int32) + nI m) = some (nI (a_co a m)) := by
  rw [rd_at (12 + m) (by rw [lit_nI 12, nI_addn]) (by omega) (by decide), (hS.2.2.2.1 m hm).2]
theorem m_kd (hI : Inv a) (hS : SR a (m_s d)) {k : Nat} (hk : k < a_n a) : f_X5_is N (nI k) (0 : Int32) d = some (nI (a_kd a k)) := by
  have h := m_is N d (k := k) (w := 0) (by have := hI.1; omega) (by omega)
  rw [Nat.add_zero, (hS.2.2.2.2 k hk).1] at h; exact h
theorem m_ag (hI : Inv a) (hS : SR a (m_s d)) {k : Nat} (hk : k < a_n a) : f_X5_is N (nI k) (1 : Int32) d = some (nI (a_ag a k)) := by
  have h := m_is N d (k := k) (w := 1) (by have := hI.1; omega) (by omega)
  rw [(hS.2.2.2.2 k hk).2.1] at h; exact h
theorem m_gd (hI : Inv a) (hS : SR a (m_s d)) {k : Nat} (hk : k < a_n a) : f_X5_is N (nI k) (2 : Int32) d = some (nI (a_gd a k)) := by
  have h := m_is N d (k := k) (w := 2) (by have := hI.1; omega) (by omega)
  rw [(hS.2.2.2.2 k hk).2.2.1] at h; exact h
theorem m_tm (hI : Inv a) (hS : SR a (m_s d)) {k : Nat} (hk : k < a_n a) : f_X5_is N (nI k) (3 : Int32) d = some (nI (a_tm a k)) := by
  have h := m_is N d (k := k) (w := 3) (by have := hI.1; omega) (by omega)
  rw [(hS.2.2.2.2 k hk).2.2.2.1] at h; exact h
theorem m_ch (hI : Inv a) (hS : SR a (m_s d)) {k : Nat} (hk : k < a_n a) : f_X5_is N (nI k) (4 : Int32) d = some (enc (a_ch a k)) := by
  have h := m_is N d (k := k) (w := 4) (by have := hI.1; omega) (by omega)
  rw [(hS.2.2.2.2 k hk).2.2.2.2.1] at h; exact h
theorem m_lv (hI : Inv a) (hS : SR a (m_s d)) {k : Nat} (hk : k < a_n a) : f_X5_is N (nI k) (5 : Int32) d = some (nI (if a_lv a k then 1 else 0)) := by
  have h := m_is N d (k := k) (w := 5) (by have := hI.1; omega) (by omega)
  rw [(hS.2.2.2.2 k hk).2.2.2.2.2.1] at h; exact h
theorem m_wy (hI : Inv a) (hS : SR a (m_s d)) {k m : Nat} (hk : k < a_n a) (hm : m < 9) : f_X5_is N (nI k) ((6 : Int32) + nI m) d = some (nI (a_wy a k m)) := by
  have h := m_is N d (k := k) (w := 6 + m) (by have := hI.1; omega) (by omega)
  rw [(hS.2.2.2.2 k hk).2.2.2.2.2.2 m hm] at h
  rw [lit_nI 6, nI_addn]; exact h
theorem m_lives (hI : Inv a) (hS : SR a (m_s d)) {k : Nat} (hk : k < a_n a) : f_X5_lives N (nI k) d = some (if a_lv a k then 1 else 0) := by
  unfold f_X5_lives
  rw [m_lv hI hS hk, some_bind']
  cases a_lv a k <;> rfl
/-- likeOf: its loop -/
theorem m_like_L (hI : Inv a) (hS : SR a (m_s d)) {i j : Nat} (hi : i < a_n a) (hj : j < a_n a) (c : Nat) : ∀ (t m n : Nat), m + t = 9 → t < n →
    f_X5_likeOf_L29 N d n (nI i) (nI j) (nI (c + sm (fun m => if same a i j m then a_wt a m else 0) m)) (nI m) = some (nI (c + sm (fun m => if same a i j m then a_wt a m else 0) 9)) := by
  intro t
  induction t with
  | zero =>
    intro m n h1 h2
    obtain ⟨n', rfl⟩ : ∃ n', n = n' + 1 := ⟨n - 1, by omega⟩
    obtain rfl : m = 9 := by omega
    rw [f_X5_likeOf_L29, if_pos (show (9 : Int32) ≤ nI 9 from nI_le (Nat.le_refl 9) (by decide))]
  | succ t ih =>
    intro m n h1 h2
    obtain ⟨n', rfl⟩ : ∃ n', n = n' + 1 := ⟨n - 1, by omega⟩
    have hm : m < 9 := by omega
    rw [f_X5_likeOf_L29, if_neg (show ¬ (9 : Int32) ≤ nI m from nI_ge hm (by decide)), m_wy hI hS hi hm, some_bind', m_wy hI hS hj hm, some_bind']
    have ih' := ih (m + 1) n' (by omega) (by omega)
    have b1 := (hI.2.2.2.2 i hi).2.2.2.2.2.2 m hm
    have b2 := (hI.2.2.2.2 j hj).2.2.2.2.2.2 m hm
    have b3 := (hI.2.2.2.2 j hj).1
    have yes : same a i j m = true → f_X5_likeOf_J76 N d (f_X5_likeOf_L29 N d n') (nI i) (nI j) (nI (c + sm (fun m => if same a i j m then a_wt a m else 0) m)) (nI m) = some (nI (c + sm (fun m => if same a i j m then a_wt a m else 0) 9)) := by
      intro hs
      rw [← ih']
      unfold f_X5_likeOf_J76 f_X5_likeOf_J81
      rw [if_neg (by decide), m_wt hS hm, some_bind', lt_eq, lt_eq, nI_addn, nI_1]
      show f_X5_likeOf_L29 N d n' (nI i) (nI j) (nI (c + sm _ m + a_wt a m)) (nI (m + 1)) = f_X5_likeOf_L29 N d n' (nI i) (nI j) (nI (c + (sm _ m + if same a i j m then a_wt a m else 0))) (nI (m + 1))
      rw [hs, if_pos rfl, Nat.add_assoc]
    have no : same a i j m = false → f_X5_likeOf_J80 N d (f_X5_likeOf_L29 N d n') (nI i) (nI j) (nI (c + sm (fun m => if same a i j m then a_wt a m else 0) m)) (nI m) = some (nI (c + sm (fun m => if same a i j m then a_wt a m else 0) 9)) := by
      intro hs
      rw [← ih']
      unfold f_X5_likeOf_J80 f_X5_likeOf_J81
      rw [if_pos rfl, lt_eq, lt_eq, lit_nI 0, nI_addn, nI_1]
      show f_X5_likeOf_L29 N d n' (nI i) (nI j) (nI (c + sm _ m + 0)) (nI (m + 1)) = f_X5_likeOf_L29 N d n' (nI i) (nI j) (nI (c + (sm _ m + if same a i j m then a_wt a m else 0))) (nI (m + 1))
      rw [hs]
      rfl
    by_cases c1 : a_wy a i m = a_wy a j m
    · rw [if_pos (by rw [c1])]
      exact yes (by unfold same; rw [c1]; simp)
    · rw [if_neg (by rw [nI_eq_iff (by omega) (by omega)]; exact c1)]
      by_cases c2 : m = 8
      · rw [if_pos (by rw [c2]; rfl), m_kd hI hS hj, some_bind']
        by_cases c3 : a_kd a j = 4
        · rw [if_pos (by rw [c3]; rfl)]
          exact yes (by unfold same; rw [c2, c3]; simp)
        · rw [if_neg (by rw [lit_nI 4, nI_eq_iff (by omega) (by decide)]; exact c3)]
          exact no (by unfold same; simp [c1, c3])
      · rw [if_neg (by rw [lit_nI 8, nI_eq_iff (by omega) (by decide)]; exact c2)]
        exact no (by unfold same; simp [c1, c2])
theorem enc_eq {o k : Nat} (ho : o < 2147483648) (hk : k < 2147483648) : (enc o = nI k) = (o = k + 1) := by
  apply propext
  cases o with
  | zero => rw [enc_0]; exact ⟨fun e => absurd e.symm (nI_ne_m1 k hk), fun e => absurd e (by omega)⟩
  | succ o => rw [enc_s, nI_eq_iff (by omega) hk]; omega
theorem enc_neg {o : Nat} (ho : o < 2147483648) : (enc o < 0) = (o = 0) := by
  apply propext
  cases o with
  | zero => exact ⟨fun _ => rfl, fun _ => by decide⟩
  | succ o => rw [enc_s]; exact ⟨fun e => absurd e (nI_pos (by omega)), fun e => absurd e (by omega)⟩
theorem enc_nn {o : Nat} (ho : o < 2147483648) : (0 ≤ enc o) = (o ≠ 0) := by
  apply propext
  cases o with
  | zero => exact ⟨fun e => absurd e (by decide), fun e => absurd rfl e⟩
  | succ o => rw [enc_s]; exact ⟨fun _ => by omega, fun _ => nI_pos' (by omega)⟩
theorem m_like (hN : 5000 ≤ N) (hI : Inv a) (hS : SR a (m_s d)) {i j : Nat} (hi : i < a_n a) (hj : j < a_n a) : f_X5_likeOf N (nI i) (nI j) d = some (nI (like a i j)) := by
  have hn := hI.1
  have b1 := (hI.2.2.2.2 i hi).2.2.2.2.2.1
  have b2 := hI.2.2.1
  have z := m_like_L (N := N) hI hS hi hj 0 9 0 N (by omega) (by omega)
  have f5 := m_like_L (N := N) hI hS hi hj 5 9 0 N (by omega) (by omega)
  unfold f_X5_likeOf
  rw [m_l hS, some_bind']
  by_cases c : a_l a = 1
  · rw [if_pos (by rw [c]; rfl), m_ch hI hS hi, some_bind']
    by_cases c2 : a_ch a i = j + 1
    · rw [if_pos (by rw [enc_eq (by omega) (by omega)]; exact c2)]
      unfold like
      rw [if_pos ⟨c, c2⟩, Nat.add_comm]
      exact f5
    · rw [if_neg (by rw [enc_eq (by omega) (by omega)]; exact c2)]
      unfold like
      rw [if_neg (fun h => c2 h.2), Nat.add_comm]
      exact z
  · rw [if_neg (by rw [lit_nI 1, nI_eq_iff (by omega) (by decide)]; exact c)]
    unfold like
    rw [if_neg (fun h => c h.1), Nat.add_comm]
    exact z
end MOD1
