/-! ===== OPERATIONS: sums, images, tapes, years ahead ===== -/
section OPS3
variable {N : Nat} {x : XD} {m : MD} {a : AS}
theorem sm_bits {p : Nat → Bool} {n k : Nat} (hk : n ≤ k) (h : ∀ i, n ≤ i → p i = false) {g : Nat → Nat} : sm (fun i => if p i then g i else 0) k = sm (fun i => if p i then g i else 0) n := by
  obtain ⟨t, rfl⟩ : ∃ t, k = n + t := ⟨k - n, by omega⟩
  rw [sm_split _ n t, sm_zero (n := t) (fun i _ => by rw [h (n + i) (by omega)]; rfl), Nat.add_zero]
theorem op_now (hN : 5000 ≤ N) (h : Sys x m) (p1 : Int32) : Ok (f_X4_now N p1 x) (f_X5_now N p1 m) := by
  have hh := h
  obtain ⟨a, hI, hS, hV, hR⟩ := h
  have hn := hI.1
  have bad : Ok (bd2 (f_X4_tell N (-1000000001) x) fun r d => some (r, d)) (bd2 (f_X5_finds N (-1000000001) m) fun r d => some (r, d)) := ok_tell hh _ 0 (by decide) (by decide)
  unfold f_X4_now f_X5_now
  by_cases c0 : p1 = 0
  · rw [if_pos c0, if_pos c0, m_y hS, some_bind', hV.2.1]
    exact ok_same hh _
  rw [if_neg c0, if_neg c0]
  by_cases c1 : p1 = 1
  · rw [if_pos c1, if_pos c1, m_l hS, some_bind', hV.2.2.1]
    exact ok_same hh _
  rw [if_neg c1, if_neg c1]
  by_cases c2 : p1 = 2
  · have hb : ∀ i, 12 ≤ i → bt (v_living (x_valley x)) i = false := fun i hi => by rw [hV.2.2.2.2.1 i, decide_eq_false (by omega), Bool.false_and]
    have e : sm (fun i => if bt (v_living (x_valley x)) i then 1 else 0) 12 = sm (fun j => if a_lv a j then (if a_lv a j then 1 else 0) else 0) (a_n a) := by
      rw [sm_bits (p := fun i => bt (v_living (x_valley x)) i) (g := fun _ => 1) hn (fun i hi => by rw [hV.2.2.2.2.1 i, decide_eq_false (by omega), Bool.false_and])]
      refine sm_cong (fun k hk => ?_)
      rw [hV.2.2.2.2.1 k, decide_eq_true hk, Bool.true_and]
      cases a_lv a k <;> rfl
    rw [if_pos c2, if_pos c2, bitc hb, some_bind', m_allOf hN hI hS (g := fun j => if a_lv a j then 1 else 0) (fun k hk => m_lv hI hS hk), some_bind', e]
    exact ok_same hh _
  rw [if_neg c2, if_neg c2]
  by_cases c3 : p1 = 3
  · rw [if_pos c3, if_pos c3, v_sum hN hI hV (p := a_lv a) (g := a_gd a) (fun k hk => by rw [hV.2.2.2.2.1 k, decide_eq_true hk, Bool.true_and]) (fun k hk => (hV.2.2.2.2.2.2 k hk).2.2.1), some_bind', m_allOf hN hI hS (g := a_gd a) (fun k hk => m_gd hI hS hk), some_bind']
    exact ok_same hh _
  rw [if_neg c3, if_neg c3]
  exact bad
theorem m_count_L (hI : Inv a) (hS : SR a (m_s m)) : ∀ (t k n : Nat), k + t = 9 → t < n → f_X5_count_L46 N n (nI (sm (a_wt a) k)) (nI k) m = some (nI (sm (a_wt a) 9), m) := by
  intro t
  induction t with
  | zero =>
    intro k n h1 h2
    obtain ⟨n', rfl⟩ : ∃ n', n = n' + 1 := ⟨n - 1, by omega⟩
    obtain rfl : k = 9 := by omega
    rw [f_X5_count_L46, if_pos (show (9 : Int32) ≤ nI 9 from nI_le (Nat.le_refl 9) (by decide))]
  | succ t ih =>
    intro k n h1 h2
    obtain ⟨n', rfl⟩ : ∃ n', n = n' + 1 := ⟨n - 1, by omega⟩
    have ih' := ih (k + 1) n' (by omega) (by omega)
    rw [f_X5_count_L46, if_neg (show ¬ (9 : Int32) ≤ nI k from nI_ge (show k < 9 by omega) (by decide)), m_wt hS (by omega), some_bind', lt_eq, lt_eq, nI_1, nI_addn]
    exact ih'
theorem op_count (hN : 5000 ≤ N) (h : Sys x m) (p1 : Int32) : Ok (f_X4_count N p1 x) (f_X5_count N p1 m) := by
  have hh := h
  obtain ⟨a, hI, hS, hV, hR⟩ := h
  have hn := hI.1
  have bad : Ok (bd2 (f_X4_tell N (-1000000001) x) fun r d => some (r, d)) (bd2 (f_X5_finds N (-1000000001) m) fun r d => some (r, d)) := ok_tell hh _ 0 (by decide) (by decide)
  unfold f_X4_count f_X5_count
  by_cases c0 : p1 = 0
  · rw [if_pos c0, if_pos c0, m_n hS, some_bind', hV.1]
    exact ok_same hh _
  rw [if_neg c0, if_neg c0]
  by_cases c1 : p1 = 1
  · obtain ⟨l, l1, l2, l3, l4⟩ := hR.2.2.1
    rw [if_pos c1, if_pos c1, l2, l3]
    exact ok_same hh _
  rw [if_neg c1, if_neg c1]
  by_cases c2 : p1 = 2
  · have z : f_X5_count_L46 N N 0 0 m = some (nI (sm (a_wt a) 9), m) := m_count_L hI hS 9 0 N (by omega) (by omega)
    rw [if_pos c2, if_pos c2, v_weightOfAll hV, some_bind', z]
    exact ok_same hh _
  rw [if_neg c2, if_neg c2]
  by_cases c3 : p1 = 3
  · rw [if_pos c3, if_pos c3, v_sum hN hI hV (p := a_lv a) (g := a_ag a) (fun k hk => by rw [hV.2.2.2.2.1 k, decide_eq_true hk, Bool.true_and]) (fun k hk => (hV.2.2.2.2.2.2 k hk).2.1), some_bind', m_allOf hN hI hS (g := a_ag a) (fun k hk => m_ag hI hS hk), some_bind']
    exact ok_same hh _
  rw [if_neg c3, if_neg c3]
  exact bad
theorem x_status_L : ∀ (t k n : Nat), k + t = 7 → t < n → f_X4_status_L33 N n (isum (x_tally x) k) (nI k) x = some (isum (x_tally x) 7, x) := by
  intro t
  induction t with
  | zero =>
    intro k n h1 h2
    obtain ⟨n', rfl⟩ : ∃ n', n = n' + 1 := ⟨n - 1, by omega⟩
    obtain rfl : k = 7 := by omega
    rw [f_X4_status_L33, if_pos (show (7 : Int32) ≤ nI 7 from nI_le (Nat.le_refl 7) (by decide))]
  | succ t ih =>
    intro k n h1 h2
    obtain ⟨n', rfl⟩ : ∃ n', n = n' + 1 := ⟨n - 1, by omega⟩
    have ih' := ih (k + 1) n' (by omega) (by omega)
    rw [f_X4_status_L33, if_neg (show ¬ (7 : Int32) ≤ nI k from nI_ge (show k < 7 by omega) (by decide)), rd_nI (by omega) (by decide), some_bind', lt_eq, lt_eq, nI_1]
    exact ih'
theorem op_status (hN : 5000 ≤ N) (h : Sys x m) (p1 : Int32) : Ok (f_X4_status N p1 x) (f_X5_status N p1 m) := by
  have hh := h
  obtain ⟨a, hI, hS, hV, hR⟩ := h
  have hn := hI.1
  have bad : Ok (bd2 (f_X4_tell N (-1000000001) x) fun r d => some (r, d)) (bd2 (f_X5_finds N (-1000000001) m) fun r d => some (r, d)) := ok_tell hh _ 0 (by decide) (by decide)
  obtain ⟨t1, t2⟩ := hR.2.2.2.2.1
  simp only [f_X4_status, f_X5_status, x_in, mi_m_6, some_bind', if10]
  by_cases c1 : 0 ≤ p1 ∧ p1 ≤ 6
  · obtain ⟨k, hk, rfl⟩ := in_nat (m := 6) (by decide) c1
    rw [if_pos c1, if_pos ⟨by have := c1.1; rw [fa_le'] at this ⊢; exact Int.le_trans (by decide) this, c1.2⟩, rd_nI (by omega) (by decide), some_bind', nI_1, rd_nI (by omega) (by decide), some_bind', t2 k (by omega)]
    exact ok_same hh _
  · rw [if_neg c1]
    by_cases c2 : p1 = -1
    · subst c2
      have z : f_X4_status_L33 N N 0 0 x = some (isum (x_tally x) 7, x) := x_status_L 7 0 N (by omega) (by omega)
      rw [if_pos rfl, z, if_pos (by decide), rd_at (i := (-1 : Int32) + 1) 0 (by decide) (by decide) (by decide), some_bind', t1]
      exact ok_same hh _
    · rw [if_neg c2, if_neg (fun z => c1 ⟨?_, z.2⟩)]
      · exact bad
      · have z1 := z.1
        rw [fa_le'] at z1 ⊢
        have e1 : (-1 : Int32).toInt = -1 := by decide
        have e0 : (0 : Int32).toInt = 0 := by decide
        have ne : p1.toInt ≠ -1 := fun q => c2 (Int32.toInt_inj.mp (q.trans e1.symm))
        rw [e1] at z1
        rw [e0]
        omega
theorem op_image (hN : 5000 ≤ N) (h : Sys x m) : Ok (f_X4_image N x) (f_X5_image N m) := by
  have hh := h
  obtain ⟨a, hI, hS, hV, hR⟩ := h
  have hn := hI.1
  unfold f_X4_image f_X5_image
  obtain ⟨v', q1, q2, -⟩ := v_take N hI hV (x_kept x)
  obtain ⟨g, r1, r2⟩ := m_copy hN (m_s m) (m_kept m)
  rw [q1, some_bind', lt_eq, lt_eq, r1, some_bind', lt_eq, lt_eq]
  obtain ⟨h1, h2, h3, h4, h5, h6⟩ := hR
  exact ⟨1, _, _, rfl, rfl, a, hI, hS, hV, Or.inr ⟨rfl, rfl, a, hI, SR_cong hI r2 hS, q2⟩, h2, h3, h4, h5, h6⟩
theorem op_undo (hN : 5000 ≤ N) (h : Sys x m) : Ok (f_X4_undo N x) (f_X5_undo N m) := by
  have hh := h
  obtain ⟨a, hI, hS, hV, hR⟩ := h
  have hn := hI.1
  unfold f_X4_undo f_X5_undo
  rcases hR.1 with ⟨k1, k2⟩ | ⟨k1, k2, b, b1, b2, b3⟩
  · rw [if_pos k1, if_pos k2]
    exact ok_tell hh _ 3 (by decide) (by decide)
  · obtain ⟨v', q1, q2, -⟩ := v_take N b1 b3 (x_valley x)
    obtain ⟨g, r1, r2⟩ := m_copy hN (m_kept m) (m_s m)
    have hg : SR b g := SR_cong b1 r2 b2
    have hg' : SR b (m_s (m_set_s m g)) := hg
    rw [if_neg (by rw [k1]; decide), if_neg (by rw [k2]; decide), q1, some_bind', lt_eq, r1, some_bind', lt_eq, m_n hg', some_bind']
    have e : v_people (x_valley (x_set_valley x v')) = nI (a_n b) := q2.1
    rw [e]
    exact ok_val hR _ b1 hg q2
theorem op_tear (h : Sys x m) : Ok (f_X4_tear N x) (f_X5_tear N m) := by
  have hh := h
  obtain ⟨a, hI, hS, hV, hR⟩ := h
  have hn := hI.1
  unfold f_X4_tear f_X5_tear
  rw [lt_eq, lt_eq, lt_eq, lt_eq]
  obtain ⟨h1, h2, h3, h4, h5, h6⟩ := hR
  rcases h1 with ⟨k1, k2⟩ | ⟨k1, k2, -⟩
  · rw [if_pos k1, if_pos k2]
    exact ⟨0, _, _, rfl, rfl, a, hI, hS, hV, Or.inl ⟨rfl, rfl⟩, h2, h3, h4, h5, h6⟩
  · rw [if_neg (by rw [k1]; decide), if_neg (by rw [k2]; decide)]
    exact ⟨1, _, _, rfl, rfl, a, hI, hS, hV, Or.inl ⟨rfl, rfl⟩, h2, h3, h4, h5, h6⟩
theorem op_wipe (h : Sys x m) : Ok (f_X4_wipe N x) (f_X5_wipe N m) := by
  have hh := h
  obtain ⟨a, hI, hS, hV, hR⟩ := h
  have hn := hI.1
  unfold f_X4_wipe f_X5_wipe f_X1_clear
  rw [lt_eq, lt_eq, bd2_some, lt_eq, lt_eq, lt_eq]
  obtain ⟨h1, h2, ⟨l, l1, l2, l3, l4⟩, h4, h5, h6⟩ := hR
  rw [l2, l3]
  exact ⟨nI l, _, _, rfl, rfl, a, hI, hS, hV, h1, h2, ⟨0, by omega, rfl, rfl, fun i hi => absurd hi (by omega)⟩, h4, h5, h6⟩
theorem byte255 (z : Int32) : z.toInt8.toInt32 &&& 255 = z &&& 255 := by
  apply b_ext
  intro i hi
  rw [b_and, b_and, b_255]
  by_cases c : i < 8
  · have e : bt z.toInt8.toInt32 i = bt z i := by
      unfold bt
      rw [Int8.toBitVec_toInt32, Int32.toBitVec_toInt8, BitVec.getLsbD_signExtend, BitVec.getLsbD_signExtend]
      simp [c, hi]
    rw [e]
  · rw [decide_eq_false c, Bool.and_false, Bool.and_false]
/-- the bytes of a feed, from the k-th down -/
theorem feed_L : ∀ (k f n : Nat) (x : XD) (m : MD) (b : Int32), Sys x m → m_taped m = nI n → n + k ≤ 120 → k ≤ 4 → k < f → Ok (f_X4_feed_L41 N f b (nI k - 1) x) (f_X5_feed_L41 N f b (nI k - 1) m) := by
  intro k
  induction k with
  | zero =>
    intro f n x m b h ht hk h4 hf
    obtain ⟨f', rfl⟩ : ∃ f', f = f' + 1 := ⟨f - 1, by omega⟩
    have hh := h
    obtain ⟨a, hI, hS, hV, hR⟩ := h
    obtain ⟨l, l1, l2, l3, l4⟩ := hR.2.2.1
    rw [f_X4_feed_L41, f_X5_feed_L41, if_pos (by decide), if_pos (by decide), l2, l3]
    exact ok_same hh _
  | succ k ih =>
    intro f n x m b h ht hk h4 hf
    obtain ⟨f', rfl⟩ : ∃ f', f = f' + 1 := ⟨f - 1, by omega⟩
    obtain ⟨a, hI, hS, hV, hR⟩ := h
    obtain ⟨h1, h2, ⟨l, l1, l2, l3, l4⟩, h5, h6, h7⟩ := hR
    obtain rfl : l = n := (nI_eq (by omega) (by omega)).mp (l2.symm.trans ht)
    have e1 : nI (k + 1) - 1 = nI k := nI_pred k
    have e2 : nI k + (-1) = nI k - 1 := by rw [Int32.sub_eq_add_neg]
    have e3 : (120 : Int32) - nI l = nI (120 - l) := pk_sub (a := 120) (by omega)
    rw [e1, f_X4_feed_L41, f_X5_feed_L41, if_neg (nI_pos (by omega)), if_neg (nI_pos (by omega))]
    unfold f_X1_append f_X1_hasRoom
    rw [l3, l2, e3, if_neg (show ¬ nI (120 - l) < (1 : Int32) from nI_nlt (show 1 ≤ 120 - l by omega) (by omega)), some_bind', if_neg (by decide), ck_nI (by omega) (by decide), some_bind', lt_eq, lt_eq, some_bind', lt_eq, lt_eq, some_bind', lt_eq, lt_eq, lt_eq, nI_clamp (by omega), pk_vb, e2]
    refine ih f' (l + 1) _ _ b ⟨a, hI, hS, hV, h1, h2, ⟨l + 1, by omega, ?_, ?_, fun i hi => ?_⟩, h5, h6, h7⟩ ?_ (by omega) (by omega) (by omega)
    · show m_taped m + 1 = nI (l + 1)
      rw [l2, nI_1]
    · show t_length (r_tape (x_reader x)) + 1 = nI (l + 1)
      rw [l3, nI_1]
    · show upd (m_tape m) l ((b >>> (((8 : Int32) * nI k) &&& 31)) &&& 255) i = upd (t_bytes (r_tape (x_reader x))) l ((b >>> (((8 : Int32) * nI k) &&& 31)).toInt8.toInt32) i &&& 255
      by_cases c : i = l
      · rw [c, pk_us, pk_us, byte255]
      · rw [pk_un c, pk_un c]
        exact l4 i (by omega)
    · show m_taped m + 1 = nI (l + 1)
      rw [l2, nI_1]
theorem op_feed (hN : 5000 ≤ N) (h : Sys x m) (p1 p2 : Int32) : Ok (f_X4_feed N p1 p2 x) (f_X5_feed N p1 p2 m) := by
  have hh := h
  obtain ⟨a, hI, hS, hV, hR⟩ := h
  have hn := hI.1
  have bad : Ok (bd2 (f_X4_tell N (-1000000001) x) fun r d => some (r, d)) (bd2 (f_X5_finds N (-1000000001) m) fun r d => some (r, d)) := ok_tell hh _ 0 (by decide) (by decide)
  obtain ⟨l, l1, l2, l3, l4⟩ := hR.2.2.1
  simp only [f_X4_feed, f_X5_feed, f_X1_hasRoom, x_in, mi_1_4, some_bind', if10]
  by_cases c1 : 1 ≤ p2 ∧ p2 ≤ 4
  · obtain ⟨k, hk, rfl⟩ := in_nat (m := 4) (by decide) ⟨by have := c1.1; rw [fa_le'] at this ⊢; exact Int.le_trans (by decide) this, c1.2⟩
    have e3 : (120 : Int32) - nI l = nI (120 - l) := pk_sub (a := 120) (by omega)
    simp only [if_pos c1, l2, l3, e3, nI_addn]
    by_cases c2 : l + k ≤ 120
    · rw [if_neg (nI_nlt (by omega) (by omega)), if_pos (show nI (l + k) ≤ (120 : Int32) from nI_le c2 (by decide)), some_bind', if_neg (by decide), lt_eq, lt_eq]
      exact feed_L k N l x m p1 hh l2 c2 hk (by omega)
    · rw [if_pos (nI_lt (by omega) (by omega)), if_neg (show ¬ nI (l + k) ≤ (120 : Int32) from nI_ge (show 120 < l + k by omega) (by omega)), some_bind', if_pos rfl]
      exact ok_tell hh _ 1 (by decide) (by decide)
  · simp only [if_neg c1]; exact bad
end OPS3
