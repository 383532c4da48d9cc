/-! ===== THE REFERENCE: rows laid by, sets, sums, who comes ===== -/
theorem ms_get (d : MD) (s) : m_s (m_set_s d s) = s := rfl
theorem ms_set (d : MD) (s s') : m_set_s (m_set_s d s) s' = m_set_s d s' := rfl
theorem SR_cong {a : AS} (hI : Inv a) {s s' : Nat → Int32} (h : ∀ j, j < 201 → s' j = s j) (hS : SR a s) : SR a s' := by
  have hn := hI.1
  obtain ⟨h1, h2, h3, h4, h5⟩ := hS
  refine ⟨(h _ (by omega)).trans h1, (h _ (by omega)).trans h2, (h _ (by omega)).trans h3, fun m hm => ⟨(h _ (by omega)).trans (h4 m hm).1, (h _ (by omega)).trans (h4 m hm).2⟩, fun k hk => ?_⟩
  obtain ⟨q0, q1, q2, q3, q4, q5, q6⟩ := h5 k hk
  exact ⟨(h _ (by omega)).trans q0, (h _ (by omega)).trans q1, (h _ (by omega)).trans q2, (h _ (by omega)).trans q3, (h _ (by omega)).trans q4, (h _ (by omega)).trans q5, fun m hm => (h _ (by omega)).trans (q6 m hm)⟩
theorem m_copy_L {N : Nat} (f : Nat → Int32) : ∀ (t k n : Nat) (g : Nat → Int32), k + t = 201 → t < n → ∃ g', f_X5_copyRow_L2 N f n (nI k) g = some g' ∧ (∀ j, k ≤ j → j < 201 → g' j = f j) ∧ ∀ j, j < k → g' j = g j := by
  intro t
  induction t with
  | zero =>
    intro k n g h1 h2
    obtain ⟨n', rfl⟩ : ∃ n', n = n' + 1 := ⟨n - 1, by omega⟩
    obtain rfl : k = 201 := by omega
    rw [f_X5_copyRow_L2, if_pos (show (201 : Int32) ≤ nI 201 from nI_le (Nat.le_refl _) (by decide))]
    exact ⟨g, rfl, fun j h3 h4 => absurd h4 (by omega), fun _ _ => rfl⟩
  | succ t ih =>
    intro k n g h1 h2
    obtain ⟨n', rfl⟩ : ∃ n', n = n' + 1 := ⟨n - 1, by omega⟩
    rw [f_X5_copyRow_L2, if_neg (show ¬ (201 : Int32) ≤ nI k from nI_ge (show k < 201 by omega) (by decide)), rd_nI (by omega) (by decide), some_bind', ck_nI (by omega) (by decide), some_bind', lt_eq, lt_eq, nI_1, nI_clamp (by omega)]
    obtain ⟨g', q1, q2, q3⟩ := ih (k + 1) n' (upd g k (f k)) (by omega) (by omega)
    refine ⟨g', q1, fun j h3 h4 => ?_, fun j h3 => (q3 j (by omega)).trans (pk_un (by omega))⟩
    by_cases c : j = k
    · subst c; exact (q3 j (by omega)).trans pk_us
    · exact q2 j (by omega) h4
theorem m_copy {N : Nat} (hN : 5000 ≤ N) (f g : Nat → Int32) : ∃ g', f_X5_copyRow N f g = some g' ∧ ∀ j, j < 201 → g' j = f j := by
  unfold f_X5_copyRow
  obtain ⟨g', q1, q2, q3⟩ := m_copy_L (N := N) f 201 0 N g (by omega) (by omega)
  exact ⟨g', q1, fun j hj => q2 j (by omega) hj⟩
theorem m_by {N : Nat} (hN : 5000 ≤ N) (d : MD) : ∃ s', f_X5_laysBy N d = some (m_set_close d s') ∧ ∀ j, j < 201 → s' j = m_s d j := by
  obtain ⟨g', q1, q2⟩ := m_copy hN (m_s d) (m_close d)
  unfold f_X5_laysBy
  rw [q1, some_bind', lt_eq]
  exact ⟨g', rfl, q2⟩
theorem m_back {N : Nat} (hN : 5000 ≤ N) (d : MD) : ∃ s', f_X5_laysBack N d = some (m_set_s d s') ∧ ∀ j, j < 201 → s' j = m_close d j := by
  obtain ⟨g', q1, q2⟩ := m_copy hN (m_close d) (m_s d)
  unfold f_X5_laysBack
  rw [q1, some_bind', lt_eq]
  exact ⟨g', rfl, q2⟩
theorem shl0 (k : Nat) (hk : k < 32) : (nI 0) <<< (nI k &&& 31) = 0 := by
  apply b_ext
  intro i hi
  rw [b_shl k hk _ hi, b_0]
  show (decide (k ≤ i) && bt 0 (i - k)) = false
  rw [b_0, Bool.and_false]
section MOD6
variable {N : Nat} {d : MD} {a : AS}
theorem m_livingSet_L (hI : Inv a) (hS : SR a (m_s d)) : ∀ (t k n : Nat), k + t = a_n a → t < n →
    f_X5_livingSet_L4 N d n (sI (a_lv a) k) (nI k) = some (sI (a_lv a) (a_n a)) := by
  have hn := hI.1
  intro t
  induction t with
  | zero =>
    intro k n h1 h2
    obtain ⟨n', rfl⟩ : ∃ n', n = n' + 1 := ⟨n - 1, by omega⟩
    obtain rfl : k = a_n a := by omega
    rw [f_X5_livingSet_L4, m_n hS, some_bind', if_pos (nI_le (Nat.le_refl _) (by omega))]
  | succ t ih =>
    intro k n h1 h2
    obtain ⟨n', rfl⟩ : ∃ n', n = n' + 1 := ⟨n - 1, by omega⟩
    have hk : k < a_n a := by omega
    have ih' := ih (k + 1) n' (by omega) (by omega)
    rw [f_X5_livingSet_L4, m_n hS, some_bind', if_neg (nI_ge hk (by omega)), m_lv hI hS hk, some_bind', lt_eq, lt_eq, nI_1]
    rw [sI] at ih'
    cases c : a_lv a k with
    | true =>
      rw [c, if_pos rfl] at ih'
      rw [if_pos rfl]
      exact ih'
    | false =>
      rw [c, if_neg (by decide)] at ih'
      rw [if_neg (by decide), shl0 k (by omega), or_0]
      exact ih'
theorem m_livingSet (hN : 5000 ≤ N) (hI : Inv a) (hS : SR a (m_s d)) : f_X5_livingSet N d = some (sI (a_lv a) (a_n a)) := by
  have hn := hI.1
  unfold f_X5_livingSet
  exact m_livingSet_L hI hS (a_n a) 0 N (by omega) (by omega)
theorem v_livingSet {v : VD} (hI : Inv a) (hV : VR a v) : v_living v = sI (a_lv a) (a_n a) := by
  have hn := hI.1
  apply b_ext
  intro i hi
  rw [sI_bt _ _ (by omega) i hi]
  exact hV.2.2.2.2.1 i
theorem m_allOf_L (hI : Inv a) (hS : SR a (m_s d)) {w : Int32} {g : Nat → Nat} (hw : ∀ k, k < a_n a → f_X5_is N (nI k) w d = some (nI (g k))) : ∀ (t k n : Nat), k + t = a_n a → t < n →
    f_X5_allOf_L4 N d n w (nI (sm (fun j => if a_lv a j then g j else 0) k)) (nI k) = some (nI (sm (fun j => if a_lv a j then g j else 0) (a_n a))) := by
  have hn := hI.1
  intro t
  induction t with
  | zero =>
    intro k n h1 h2
    obtain ⟨n', rfl⟩ : ∃ n', n = n' + 1 := ⟨n - 1, by omega⟩
    obtain rfl : k = a_n a := by omega
    rw [f_X5_allOf_L4, m_n hS, some_bind', if_pos (nI_le (Nat.le_refl _) (by omega))]
  | succ t ih =>
    intro k n h1 h2
    obtain ⟨n', rfl⟩ : ∃ n', n = n' + 1 := ⟨n - 1, by omega⟩
    have hk : k < a_n a := by omega
    have ih' := ih (k + 1) n' (by omega) (by omega)
    rw [f_X5_allOf_L4, m_n hS, some_bind', if_neg (nI_ge hk (by omega)), m_lives hI hS hk, some_bind']
    rw [sm] at ih'
    cases c : a_lv a k with
    | true =>
      rw [if_neg (by decide), hw k hk, some_bind', lt_eq, lt_eq, nI_1, nI_addn]
      rw [c, if_pos rfl] at ih'
      exact ih'
    | false =>
      rw [if_pos (by rfl), lt_eq, lt_eq, nI_1, lit_nI 0, nI_addn]
      rw [c, if_neg (by decide)] at ih'
      exact ih'
theorem m_allOf (hN : 5000 ≤ N) (hI : Inv a) (hS : SR a (m_s d)) {w : Int32} {g : Nat → Nat} (hw : ∀ k, k < a_n a → f_X5_is N (nI k) w d = some (nI (g k))) : f_X5_allOf N w d = some (nI (sm (fun j => if a_lv a j then g j else 0) (a_n a))) := by
  have hn := hI.1
  unfold f_X5_allOf
  exact m_allOf_L hI hS hw (a_n a) 0 N (by omega) (by omega)
theorem m_watch_L (hN : 5000 ≤ N) (hI : Inv a) (hS : SR a (m_s d)) {i : Nat} (hi : i < a_n a) : ∀ (t k n : Nat), k + t = a_n a → t < n →
    f_X5_watched_L19 N n (nI i) (sI (fun k => a_lv a k && (aim a k == i + 1)) k) (nI k) d = some (watch a i, d) := by
  have hn := hI.1
  intro t
  induction t with
  | zero =>
    intro k n h1 h2
    obtain ⟨n', rfl⟩ : ∃ n', n = n' + 1 := ⟨n - 1, by omega⟩
    obtain rfl : k = a_n a := by omega
    rw [f_X5_watched_L19, m_n hS, some_bind', if_pos (nI_le (Nat.le_refl _) (by omega))]
    rfl
  | succ t ih =>
    intro k n h1 h2
    obtain ⟨n', rfl⟩ : ∃ n', n = n' + 1 := ⟨n - 1, by omega⟩
    have hk : k < a_n a := by omega
    have ih' := ih (k + 1) n' (by omega) (by omega)
    have hl := aim_le hI hk
    rw [f_X5_watched_L19, m_n hS, some_bind', if_neg (nI_ge hk (by omega)), m_lives hI hS hk, some_bind']
    rw [sI] at ih'
    cases c3 : a_lv a k with
    | false =>
      rw [if_pos (by rfl), lt_eq, lt_eq, nI_1, or_0]
      rw [c3, if_neg (by simp)] at ih'
      exact ih'
    | true =>
      rw [if_neg (by decide), m_aim hN hI hS hk, some_bind']
      by_cases c4 : aim a k = i + 1
      · rw [if_pos (by rw [enc_eq (by omega) (by omega)]; exact c4), lt_eq, lt_eq, nI_1]
        rw [c3, c4, if_pos (by simp)] at ih'
        exact ih'
      · rw [if_neg (by rw [enc_eq (by omega) (by omega)]; exact c4), lt_eq, lt_eq, nI_1, or_0]
        rw [if_neg (by simp [c4])] at ih'
        exact ih'
def newP (a : AS) (kd ag : Nat) : AS := (a_n a + 1, a_y a, a_l a, a_wt a, a_co a, va_up (a_kd a) (a_n a) kd, va_up (a_ag a) (a_n a) ag, va_up (a_gd a) (a_n a) 10, va_up (a_tm a) (a_n a) 70, va_up (a_ch a) (a_n a) 0, va_up (a_lv a) (a_n a) true, va_up (a_wy a) (a_n a) (fun _ => 0))
theorem newP_inv (hI : Inv a) {kd ag : Nat} (h1 : kd ≤ 5) (h2 : ag ≤ 120) (hn : a_n a < 12) : Inv (newP a kd ag) := by
  refine ⟨(show a_n a + 1 ≤ 12 by omega), hI.2.1, hI.2.2.1, hI.2.2.2.1, fun k hk => ?_⟩
  have hk : k < a_n a + 1 := hk
  show va_up (a_kd a) (a_n a) kd k ≤ 5 ∧ va_up (a_ag a) (a_n a) ag k ≤ 120 ∧ va_up (a_gd a) (a_n a) 10 k ≤ 999999 ∧ 1 ≤ va_up (a_tm a) (a_n a) 70 k ∧ va_up (a_tm a) (a_n a) 70 k ≤ 120 ∧ va_up (a_ch a) (a_n a) 0 k ≤ a_n a + 1 ∧ ∀ m, m < 9 → va_up (a_wy a) (a_n a) (fun _ => 0) k m ≤ 3
  by_cases c : k = a_n a
  · subst c
    rw [va_up_s, va_up_s, va_up_s, va_up_s, va_up_s, va_up_s]
    exact ⟨h1, h2, by omega, by omega, by omega, by omega, fun m _ => Nat.zero_le _⟩
  · rw [va_up_n _ _ c, va_up_n _ _ c, va_up_n _ _ c, va_up_n _ _ c, va_up_n _ _ c, va_up_n _ _ c]
    obtain ⟨q0, q1, q2, q3, q4, q5, q6⟩ := hI.2.2.2.2 k (by omega)
    exact ⟨q0, q1, q2, q3, q4, by omega, q6⟩
theorem m_comes_L {kd ag : Nat} {n0 : Nat} (hn0 : n0 < 12) : ∀ (t m n : Nat) (d : MD), m + t = 9 → t < n →
    ∃ s', f_X5_comes_L20 N n (nI kd) (nI ag) (nI n0) (nI m) d = some (nI n0, m_set_s d s') ∧ (∀ j, (j < 21 + 15 * n0 ∨ 21 + 15 * n0 + 15 ≤ j) → s' j = m_s d j) ∧ s' (21 + 15 * n0) = nI kd ∧ s' (21 + 15 * n0 + 1) = nI ag ∧ s' (21 + 15 * n0 + 2) = nI 10 ∧ s' (21 + 15 * n0 + 3) = nI 70 ∧ s' (21 + 15 * n0 + 4) = -1 ∧ s' (21 + 15 * n0 + 5) = nI 1 ∧ (∀ q, m ≤ q → q < 9 → s' (21 + 15 * n0 + (6 + q)) = 0) ∧ ∀ q, q < m → s' (21 + 15 * n0 + (6 + q)) = m_s d (21 + 15 * n0 + (6 + q)) := by
  intro t
  induction t with
  | zero =>
    intro m n d h1 h2
    obtain ⟨n', rfl⟩ : ∃ n', n = n' + 1 := ⟨n - 1, by omega⟩
    obtain rfl : m = 9 := by omega
    rw [f_X5_comes_L20, if_pos (show (9 : Int32) ≤ nI 9 from nI_le (Nat.le_refl _) (by decide)), show (0 : Int32) = nI 0 from rfl, m_puts N d hn0 (by omega), some_bind', show (1 : Int32) = nI 1 from rfl, m_puts N _ hn0 (by omega), some_bind', show (2 : Int32) = nI 2 from rfl, m_puts N _ hn0 (by omega), some_bind', show (3 : Int32) = nI 3 from rfl, m_puts N _ hn0 (by omega), some_bind', show (4 : Int32) = nI 4 from rfl, m_puts N _ hn0 (by omega), some_bind', show (5 : Int32) = nI 5 from rfl, m_puts N _ hn0 (by omega), some_bind']
    simp only [ms_get, ms_set]
    refine ⟨upd (upd (upd (upd (upd (upd (m_s d) (21 + 15 * n0 + 0) (nI kd)) (21 + 15 * n0 + 1) (nI ag)) (21 + 15 * n0 + 2) (nI 10)) (21 + 15 * n0 + 3) (nI 70)) (21 + 15 * n0 + 4) (-1)) (21 + 15 * n0 + 5) (nI 1), rfl, ?_, ?_, ?_, ?_, ?_, ?_, ?_, ?_, ?_⟩
    · intro j hj
      rw [pk_un (by omega), pk_un (by omega), pk_un (by omega), pk_un (by omega), pk_un (by omega), pk_un (by omega)]
    · rw [pk_un (by omega), pk_un (by omega), pk_un (by omega), pk_un (by omega), pk_un (by omega)]; exact pk_us
    · rw [pk_un (by omega), pk_un (by omega), pk_un (by omega), pk_un (by omega)]; exact pk_us
    · rw [pk_un (by omega), pk_un (by omega), pk_un (by omega)]; exact pk_us
    · rw [pk_un (by omega), pk_un (by omega)]; exact pk_us
    · rw [pk_un (by omega)]; exact pk_us
    · exact pk_us
    · intro q h3 h4; omega
    · intro q hq
      rw [pk_un (by omega), pk_un (by omega), pk_un (by omega), pk_un (by omega), pk_un (by omega), pk_un (by omega)]
  | succ t ih =>
    intro m n d h1 h2
    obtain ⟨n', rfl⟩ : ∃ n', n = n' + 1 := ⟨n - 1, by omega⟩
    rw [f_X5_comes_L20, if_neg (show ¬ (9 : Int32) ≤ nI m from nI_ge (show m < 9 by omega) (by decide)), lit_nI 6, nI_addn, m_puts N d hn0 (by omega), some_bind', lt_eq, nI_1]
    obtain ⟨s', q1, q2, q3, q4, q5, q6, q7, q8, q9, q10⟩ := ih (m + 1) n' (m_set_s d (upd (m_s d) (21 + 15 * n0 + (6 + m)) (nI 0))) (by omega) (by omega)
    rw [ms_set] at q1
    rw [ms_get] at q2 q10
    refine ⟨s', q1, fun j hj => (q2 j hj).trans (pk_un (by omega)), q3, q4, q5, q6, q7, q8, fun q h3 h4 => ?_, fun q hq => (q10 q (by omega)).trans (pk_un (by omega))⟩
    by_cases c : q = m
    · subst c; exact (q10 q (by omega)).trans pk_us
    · exact q9 q (by omega) h4
theorem m_comes (hN : 5000 ≤ N) (hI : Inv a) (hS : SR a (m_s d)) {kd ag : Nat} (hn : a_n a < 12) : ∃ s', f_X5_comes N (nI kd) (nI ag) d = some (nI (a_n a), m_set_s d s') ∧ SR (newP a kd ag) s' := by
  unfold f_X5_comes
  rw [m_n hS, some_bind', some_bind', ck_at (i := (0 : Int32)) 0 rfl (by decide) (by decide), some_bind', lt_eq, nI_1, sb_cl0]
  obtain ⟨s', q1, q2, q3, q4, q5, q6, q7, q8, q9, q10⟩ := m_comes_L (N := N) (kd := kd) (ag := ag) hn 9 0 N (m_set_s d (upd (m_s d) 0 (nI (a_n a + 1)))) (by omega) (by omega)
  rw [ms_set] at q1
  rw [ms_get] at q2
  refine ⟨s', q1, ?_⟩
  obtain ⟨h1, h2, h3, h4, h5⟩ := hS
  refine ⟨(q2 0 (by omega)).trans pk_us, (q2 1 (by omega)).trans ((pk_un (by omega)).trans h2), (q2 2 (by omega)).trans ((pk_un (by omega)).trans h3), fun m hm => ⟨(q2 _ (by omega)).trans ((pk_un (by omega)).trans (h4 m hm).1), (q2 _ (by omega)).trans ((pk_un (by omega)).trans (h4 m hm).2)⟩, fun k hk => ?_⟩
  have hk : k < a_n a + 1 := hk
  show s' (21 + 15 * k) = nI (va_up (a_kd a) (a_n a) kd k) ∧ s' (21 + 15 * k + 1) = nI (va_up (a_ag a) (a_n a) ag k) ∧ s' (21 + 15 * k + 2) = nI (va_up (a_gd a) (a_n a) 10 k) ∧ s' (21 + 15 * k + 3) = nI (va_up (a_tm a) (a_n a) 70 k) ∧ s' (21 + 15 * k + 4) = enc (va_up (a_ch a) (a_n a) 0 k) ∧ s' (21 + 15 * k + 5) = nI (if va_up (a_lv a) (a_n a) true k then 1 else 0) ∧ ∀ m, m < 9 → s' (21 + 15 * k + (6 + m)) = nI (va_up (a_wy a) (a_n a) (fun _ => 0) k m)
  by_cases c : k = a_n a
  · subst c
    rw [va_up_s, va_up_s, va_up_s, va_up_s, va_up_s, va_up_s, va_up_s]
    exact ⟨q3, q4, q5, q6, q7, q8, fun m hm => q9 m (by omega) hm⟩
  · rw [va_up_n _ _ c, va_up_n _ _ c, va_up_n _ _ c, va_up_n _ _ c, va_up_n _ _ c, va_up_n _ _ c, va_up_n _ _ c]
    obtain ⟨r0, r1, r2, r3, r4, r5, r6⟩ := h5 k (by omega)
    exact ⟨(q2 _ (by omega)).trans ((pk_un (by omega)).trans r0), (q2 _ (by omega)).trans ((pk_un (by omega)).trans r1), (q2 _ (by omega)).trans ((pk_un (by omega)).trans r2), (q2 _ (by omega)).trans ((pk_un (by omega)).trans r3), (q2 _ (by omega)).trans ((pk_un (by omega)).trans r4), (q2 _ (by omega)).trans ((pk_un (by omega)).trans r5), fun m hm => (q2 _ (by omega)).trans ((pk_un (by omega)).trans (r6 m hm))⟩
theorem LK_0 : LK 0 (fun _ => 0) := ⟨fun m hm => ⟨by rw [b_0]; exact (Nat.zero_testBit 0).symm, by rw [b_0]; exact (Nat.zero_testBit 1).symm⟩, fun i _ => b_0 i⟩
theorem v_addOne {v : VD} (hI : Inv a) (hV : VR a v) {kd ag : Nat} (hn : a_n a < 12) : ∃ v', f_X3_addOne N (nI kd) (nI ag) v = some (nI (a_n a), v') ∧ VR (newP a kd ag) v' ∧ v_children v' 12 = v_children v 12 := by
  obtain ⟨d1, d2, d3, d4, d5, d6, d7, d8, d9, d10, d11, d12, d13, d14, d15, d16⟩ := v
  obtain ⟨h1, h2, h3, h4, h5, h6, h7⟩ := hV
  have h1' : d13 = nI (a_n a) := h1
  subst h1'
  have c12 : ck (nI (a_n a)) 12 = some () := ck_nI hn (by decide)
  have c13 : ck (nI (a_n a)) 13 = some () := ck_nI (by omega) (by decide)
  have hc : (nI (a_n a)).toNatClampNeg = a_n a := nI_clamp (by omega)
  have e : f_X3_addOne N (nI kd) (nI ag) ((d1, d2, d3, d4, d5, d6, d7, d8, d9, d10, d11, d12, nI (a_n a), d14, d15, d16) : VD) = some (nI (a_n a), ((d1, d2, d3, d4, upd d5 (a_n a) (nI kd), upd d6 (a_n a) (nI ag), upd d7 (a_n a) (nI 10), upd d8 (a_n a) (nI 70), upd d9 (a_n a) (-1), upd d10 (a_n a) 0, d11, d12, nI (a_n a + 1), d14 ||| ((1 : Int32) <<< (nI (a_n a) &&& 31)), d15, d16) : VD)) := by
    unfold f_X3_addOne
    rw [vg_people, if_pos (show nI (a_n a) < (12 : Int32) from nI_lt hn (by decide))]
    simp only [lt_eq, c12, c13, hc, some_bind', nI_1, vt_weights, vt_costs, vt_lowerSums, vt_upperSums, vt_kinds, vt_ages, vt_goods, vt_terms, vt_children, vt_looks, vt_gotBy, vt_deathYears, vt_people, vt_living, vt_law, vt_year, vg_weights, vg_costs, vg_lowerSums, vg_upperSums, vg_kinds, vg_ages, vg_goods, vg_terms, vg_children, vg_looks, vg_gotBy, vg_deathYears, vg_people, vg_living, vg_law, vg_year]
    rfl
  refine ⟨_, e, ⟨rfl, h2, h3, h4, fun k => ?_, h6, fun k hk => ?_⟩, pk_un (by omega)⟩
  · show bt (d14 ||| ((1 : Int32) <<< (nI (a_n a) &&& 31))) k = (decide (k < a_n a + 1) && va_up (a_lv a) (a_n a) true k)
    have h5' : bt d14 k = (decide (k < a_n a) && a_lv a k) := h5 k
    rw [b_set _ _ (by omega), h5']
    by_cases c : k = a_n a
    · rw [c, va_up_s]; simp
    · rw [va_up_n _ _ c]
      have e : decide (k < a_n a + 1) = decide (k < a_n a) := by
        by_cases z : k < a_n a
        · rw [decide_eq_true z, decide_eq_true (show k < a_n a + 1 by omega)]
        · rw [decide_eq_false z, decide_eq_false (show ¬ k < a_n a + 1 by omega)]
      rw [e, decide_eq_false c, Bool.or_false]
  · have hk : k < a_n a + 1 := hk
    show upd d5 (a_n a) (nI kd) k = nI (va_up (a_kd a) (a_n a) kd k) ∧ upd d6 (a_n a) (nI ag) k = nI (va_up (a_ag a) (a_n a) ag k) ∧ upd d7 (a_n a) (nI 10) k = nI (va_up (a_gd a) (a_n a) 10 k) ∧ upd d8 (a_n a) (nI 70) k = nI (va_up (a_tm a) (a_n a) 70 k) ∧ upd d9 (a_n a) (-1 : Int32) k = enc (va_up (a_ch a) (a_n a) 0 k) ∧ LK (upd d10 (a_n a) (0 : Int32) k) (va_up (a_wy a) (a_n a) (fun _ => 0) k)
    by_cases c : k = a_n a
    · rw [c, va_up_s, va_up_s, va_up_s, va_up_s, va_up_s, va_up_s, pk_us, pk_us, pk_us, pk_us, pk_us, pk_us]
      exact ⟨rfl, rfl, rfl, rfl, rfl, LK_0⟩
    · rw [va_up_n _ _ c, va_up_n _ _ c, va_up_n _ _ c, va_up_n _ _ c, va_up_n _ _ c, va_up_n _ _ c, pk_un c, pk_un c, pk_un c, pk_un c, pk_un c, pk_un c]
      exact h7 k (by omega)
theorem v_addFull {v : VD} (hV : VR a v) {p q : Int32} (hn : a_n a = 12) : f_X3_addOne N p q v = some (-1, v) := by
  unfold f_X3_addOne
  rw [hV.1, hn, if_neg (by decide)]
end MOD6
/-! counting bits -/
def pcn (n : Nat) : Nat := sm (fun i => if n.testBit i then 1 else 0) 12
theorem bitc00 : ∀ h, h < 64 → ∀ l, l < 64 → f_J6_bitCount_0f7a4 0 (nI (64 * h + l)) = some (nI (pcn (64 * h + l))) := by decide +kernel
theorem bitc0 (n : Nat) (hn : n < 4096) : f_J6_bitCount_0f7a4 0 (nI n) = some (nI (pcn n)) := by
  have z := bitc00 (n / 64) (by omega) (n % 64) (by omega)
  rw [show 64 * (n / 64) + n % 64 = n by omega] at z
  exact z
theorem toN_lt {x : Int32} {K : Nat} (hx : ∀ i, K ≤ i → bt x i = false) : x.toBitVec.toNat < 2 ^ K := Nat.lt_pow_two_of_testBit _ (fun i hi => hx i hi)
theorem toN_eq (x : Int32) : x = nI x.toBitVec.toNat := by
  apply b_ext
  intro i hi
  rw [b_nI _ hi]
  rfl
theorem bitc {N : Nat} {x : Int32} (hx : ∀ i, 12 ≤ i → bt x i = false) : f_J6_bitCount_0f7a4 N x = some (nI (sm (fun i => if bt x i then 1 else 0) 12)) := by
  have h1 := toN_lt hx
  have z := bitc0 x.toBitVec.toNat (by omega)
  rw [← toN_eq] at z
  exact z
theorem manyIn0 : ∀ n, n < 512 → f_X5_manyIn_L4 0 13 0 (nI n) = some (nI (pcn n)) := by decide +kernel
theorem manyIn_N (N : Nat) : ∀ (n : Nat) (c x : Int32), f_X5_manyIn_L4 N n c x = f_X5_manyIn_L4 0 n c x
  | 0, c, x => rfl
  | n + 1, c, x => by
    rw [f_X5_manyIn_L4, f_X5_manyIn_L4]
    simp only [lt_eq, manyIn_N N n]
theorem manyIn_up : ∀ (n k : Nat) (c x r : Int32), f_X5_manyIn_L4 0 n c x = some r → f_X5_manyIn_L4 0 (n + k) c x = some r
  | 0, k, c, x, r, h => by cases h
  | n + 1, k, c, x, r, h => by
    rw [show n + 1 + k = (n + k) + 1 by omega, f_X5_manyIn_L4]
    rw [f_X5_manyIn_L4] at h
    by_cases q : x = 0
    · rw [if_pos q] at h ⊢; exact h
    · rw [if_neg q, lt_eq, lt_eq] at h
      rw [if_neg q, lt_eq, lt_eq]
      exact manyIn_up n k _ _ r h
theorem manyIn {N : Nat} (hN : 5000 ≤ N) {n : Nat} (hn : n < 512) : f_X5_manyIn N (nI n) = some (nI (pcn n)) := by
  unfold f_X5_manyIn
  rw [manyIn_N]
  have z := manyIn_up 13 (N - 13) 0 (nI n) (nI (pcn n)) (manyIn0 n hn)
  rw [show 13 + (N - 13) = N by omega] at z
  exact z
