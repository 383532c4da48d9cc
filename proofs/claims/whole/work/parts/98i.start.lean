/-! ===== THE START ===== -/
def a0 : AS := (0, 0, 0, fun _ => 1, fun _ => 2, fun _ => 0, fun _ => 0, fun _ => 0, fun _ => 0, fun _ => 0, fun _ => false, fun _ _ => 0)
theorem st_fill (N : Nat) (p : Int32) : ∀ (t i n : Nat) (f : Nat → Int32), i + t = 9 → t < n → (∀ j, j < i → f j = p) → ∃ f', f_J7_fill_53178_L5 N 9 n p (nI i) (nI 9) f = some f' ∧ ∀ j, j < 9 → f' j = p := by
  intro t
  induction t with
  | zero =>
    intro i n f h1 h2 hf
    obtain ⟨n', rfl⟩ : ∃ n', n = n' + 1 := ⟨n - 1, by omega⟩
    obtain rfl : i = 9 := by omega
    rw [f_J7_fill_53178_L5, if_pos (nI_le (Nat.le_refl _) (by omega))]
    exact ⟨f, rfl, hf⟩
  | succ t ih =>
    intro i n f h1 h2 hf
    obtain ⟨n', rfl⟩ : ∃ n', n = n' + 1 := ⟨n - 1, by omega⟩
    rw [f_J7_fill_53178_L5, if_neg (nI_ge (show i < 9 by omega) (by omega)), ck_nI (by omega) (by omega), some_bind', lt_eq, lt_eq, nI_1, nI_clamp (by omega)]
    refine ih (i + 1) n' _ (by omega) (by omega) (fun j hj => ?_)
    by_cases c : j = i
    · subst c; exact pk_us
    · rw [pk_un c]; exact hf j (by omega)
theorem st_fill0 {N : Nat} (hN : 5000 ≤ N) (p : Int32) (f : Nat → Int32) : ∃ f', f_J7_fill_53178 N 9 p f = some f' ∧ ∀ j, j < 9 → f' j = p := by
  unfold f_J7_fill_53178
  rw [lt_eq]
  exact st_fill N p 9 0 N f rfl (by omega) (fun j hj => absurd hj (by omega))
theorem st_bt0 (k : Nat) : bt 0 k = false := by
  unfold bt
  show (0#32).getLsbD k = false
  simp
theorem st_v {N : Nat} (hN : 5000 ≤ N) : ∃ v, f_X3_init N = some v ∧ VR a0 v ∧ v_children v 12 = -1 := by
  obtain ⟨f1, p1, q1⟩ := st_fill0 hN (2 : Int32) (v_costs vZ)
  obtain ⟨d3, e3⟩ : ∃ d, d = v_set_costs vZ f1 := ⟨_, rfl⟩
  have a1 : v_costs d3 = f1 := by rw [e3]; rfl
  have b1 : v_lowerSums d3 = fun _ => 0 := by rw [e3]; rfl
  have b2 : v_upperSums d3 = fun _ => 0 := by rw [e3]; rfl
  have b3 : v_people d3 = 0 ∧ v_year d3 = 0 ∧ v_law d3 = 0 ∧ v_living d3 = 0 := by rw [e3]; exact ⟨rfl, rfl, rfl, rfl⟩
  obtain ⟨f4, p4, q4⟩ := st_fill0 hN (1 : Int32) (v_weights d3)
  obtain ⟨d6, e6⟩ : ∃ d, d = v_set_weights d3 f4 := ⟨_, rfl⟩
  have c1 : v_weights d6 = f4 ∧ v_costs d6 = v_costs d3 ∧ v_lowerSums d6 = v_lowerSums d3 ∧ v_upperSums d6 = v_upperSums d3 ∧ v_people d6 = v_people d3 ∧ v_year d6 = v_year d3 ∧ v_law d6 = v_law d3 ∧ v_living d6 = v_living d3 := by rw [e6]; exact ⟨rfl, rfl, rfl, rfl, rfl, rfl, rfl, rfl⟩
  have hw6 : ∀ m, m < 9 → v_weights d6 m = nI ((fun _ => 1) m) := fun m hm => by rw [c1.1, q4 m hm]; rfl
  obtain ⟨⟨f7, p7, q7⟩, -⟩ := v_sums (N := N) hN (d := d6) (f := fun _ => 1) (gl := v_lowerSums d6) (gu := fun _ => 0) hw6 (by rw [c1.2.2.1, b1]) rfl
  obtain ⟨d9, e9⟩ : ∃ d, d = v_set_lowerSums d6 f7 := ⟨_, rfl⟩
  have c2 : v_lowerSums d9 = f7 ∧ v_weights d9 = v_weights d6 ∧ v_costs d9 = v_costs d6 ∧ v_upperSums d9 = v_upperSums d6 ∧ v_people d9 = v_people d6 ∧ v_year d9 = v_year d6 ∧ v_law d9 = v_law d6 ∧ v_living d9 = v_living d6 := by rw [e9]; exact ⟨rfl, rfl, rfl, rfl, rfl, rfl, rfl, rfl⟩
  obtain ⟨-, ⟨f10, p10, q10⟩⟩ := v_sums (N := N) hN (d := d9) (f := fun _ => 1) (gl := fun _ => 0) (gu := v_upperSums d9) (fun m hm => by rw [c2.2.1]; exact hw6 m hm) rfl (by rw [c2.2.2.2.1, c1.2.2.2.1, b2])
  obtain ⟨d12, e12⟩ : ∃ d, d = v_set_upperSums d9 f10 := ⟨_, rfl⟩
  have c3 : v_upperSums d12 = f10 ∧ v_lowerSums d12 = v_lowerSums d9 ∧ v_weights d12 = v_weights d9 ∧ v_costs d12 = v_costs d9 ∧ v_people d12 = v_people d9 ∧ v_year d12 = v_year d9 ∧ v_law d12 = v_law d9 ∧ v_living d12 = v_living d9 := by rw [e12]; exact ⟨rfl, rfl, rfl, rfl, rfl, rfl, rfl, rfl⟩
  obtain ⟨d14, e14⟩ : ∃ d, d = v_set_children d12 (upd (v_children d12) ((12 : Int32)).toNatClampNeg (-1 : Int32)) := ⟨_, rfl⟩
  have c4 : v_children d14 = upd (v_children d12) ((12 : Int32)).toNatClampNeg (-1 : Int32) ∧ v_upperSums d14 = v_upperSums d12 ∧ v_lowerSums d14 = v_lowerSums d12 ∧ v_weights d14 = v_weights d12 ∧ v_costs d14 = v_costs d12 ∧ v_people d14 = v_people d12 ∧ v_year d14 = v_year d12 ∧ v_law d14 = v_law d12 ∧ v_living d14 = v_living d12 := by rw [e14]; exact ⟨rfl, rfl, rfl, rfl, rfl, rfl, rfl, rfl, rfl⟩
  refine ⟨d14, ?_, ?_, ?_⟩
  · unfold f_X3_init
    rw [p1, some_bind', lt_eq, ← e3, p4, some_bind', lt_eq, ← e6, p7, some_bind', lt_eq, ← e9, p10, some_bind', lt_eq, ← e12, lit_nI 12, ck_nI (by omega) (by omega), some_bind', lt_eq, ← lit_nI 12, ← e14]
  · obtain ⟨c40, c41, c42, c43, c44, c45, c46, c47, c48⟩ := c4
    obtain ⟨c30, c31, c32, c33, c34, c35, c36, c37⟩ := c3
    obtain ⟨c20, c21, c22, c23, c24, c25, c26, c27⟩ := c2
    obtain ⟨c10, c11, c12, c13, c14, c15, c16, c17⟩ := c1
    obtain ⟨b30, b31, b32, b33⟩ := b3
    refine ⟨?_, ?_, ?_, ?_, ?_, ⟨?_, ?_⟩, fun k hk => absurd hk (Nat.not_lt_zero k)⟩
    · rw [c45, c34, c24, c14, b30]; rfl
    · rw [c46, c35, c25, c15, b31]; rfl
    · rw [c47, c36, c26, c16, b32]; rfl
    · intro m hm
      rw [c43, c32, c21, c10, q4 m hm, c44, c33, c22, c11, a1, q1 m hm]
      exact ⟨rfl, rfl⟩
    · intro k
      rw [c48, c37, c27, c17, b33, st_bt0]
      rfl
    · intro k hk
      rw [c42, c31, c20, q7 k hk]; rfl
    · intro k hk
      rw [c41, c30, q10 k hk]; rfl
  · rw [c4.1, show ((12 : Int32)).toNatClampNeg = 12 from by decide]
    exact pk_us
theorem st_m_L (N : Nat) : ∀ (t i n : Nat) (d : MD), i + t = 9 → t < n → (∀ j, j < i → m_s d (3 + j) = 1 ∧ m_s d (12 + j) = 2) → ∃ d', f_X5_init_L102 N n (nI i) d = some d' ∧ (∃ s, d' = m_set_s d s) ∧ (∀ j, j < 9 → m_s d' (3 + j) = 1 ∧ m_s d' (12 + j) = 2) ∧ m_s d' 0 = m_s d 0 ∧ m_s d' 1 = m_s d 1 ∧ m_s d' 2 = m_s d 2 := by
  intro t
  induction t with
  | zero =>
    intro i n d h1 h2 hf
    obtain ⟨n', rfl⟩ : ∃ n', n = n' + 1 := ⟨n - 1, by omega⟩
    obtain rfl : i = 9 := by omega
    rw [f_X5_init_L102, lit_nI 9, if_pos (nI_le (Nat.le_refl _) (by omega))]
    exact ⟨d, rfl, ⟨m_s d, rfl⟩, hf, rfl, rfl, rfl⟩
  | succ t ih =>
    intro i n d h1 h2 hf
    obtain ⟨n', rfl⟩ : ∃ n', n = n' + 1 := ⟨n - 1, by omega⟩
    rw [f_X5_init_L102, lit_nI 9, if_neg (nI_ge (show i < 9 by omega) (by omega)), lit_nI 3, lit_nI 12, nI_addn, nI_addn, ck_nI (by omega) (by omega), some_bind', lt_eq, ck_nI (by omega) (by omega), some_bind', lt_eq, lt_eq, nI_1, nI_clamp (by omega), nI_clamp (by omega)]
    obtain ⟨d3, e3⟩ : ∃ x, x = m_set_s d (upd (m_s d) (3 + i) 1) := ⟨_, rfl⟩
    rw [← e3]
    have g3 : m_s d3 = upd (m_s d) (3 + i) 1 := by rw [e3]; rfl
    obtain ⟨d5, e5⟩ : ∃ x, x = m_set_s d3 (upd (m_s d3) (12 + i) 2) := ⟨_, rfl⟩
    rw [← e5]
    have g5 : m_s d5 = upd (upd (m_s d) (3 + i) 1) (12 + i) 2 := by rw [e5, ← g3]; rfl
    obtain ⟨d', z1, ⟨sx, z2⟩, z3, z4, z5, z6⟩ := ih (i + 1) n' d5 (by omega) (by omega) (fun j hj => by
      rw [g5]
      by_cases c : j = i
      · subst c; exact ⟨by rw [pk_un (by omega), pk_us], pk_us⟩
      · rw [pk_un (by omega), pk_un (by omega), pk_un (by omega), pk_un (by omega)]; exact hf j (by omega))
    refine ⟨d', z1, ⟨sx, by rw [z2, e5, e3]; rfl⟩, z3, ?_, ?_, ?_⟩
    · rw [z4, g5, pk_un (by omega), pk_un (by omega)]
    · rw [z5, g5, pk_un (by omega), pk_un (by omega)]
    · rw [z6, g5, pk_un (by omega), pk_un (by omega)]
theorem st_sys {N : Nat} (hN : 5000 ≤ N) : ∃ v m, f_X3_init N = some v ∧ f_X5_init N = some m ∧ Sys (xZ v) m := by
  obtain ⟨v, h1, h2, h3⟩ := st_v hN
  obtain ⟨m, k1, ⟨sx, k2⟩, k3, k4, k5, k6⟩ := st_m_L N 9 0 N mZ rfl (by omega) (fun j hj => absurd hj (by omega))
  have kq : m_isKept m = 0 ∧ m_taped m = 0 ∧ (∀ t, m_sizes m t = 0) ∧ m_bitsOf m = m_bitsOf mZ ∧ (∀ t, m_numbers m t = 0) ∧ (∀ t, m_findings m t = 0) ∧ m_asked m = -1 := by
    rw [k2]
    exact ⟨rfl, rfl, fun _ => rfl, rfl, fun _ => rfl, fun _ => rfl, rfl⟩
  obtain ⟨y1, y2, y3, y4, y5, y6, y7⟩ := kq
  refine ⟨v, m, h1, k1, a0, ?_, ?_, h2, Or.inl ⟨rfl, y1⟩, h3, ⟨0, by omega, y2, rfl, fun i hi => absurd hi (by omega)⟩, ?_, ?_, y7⟩
  · exact ⟨by decide, by decide, by decide, fun m hm => ⟨(by decide : 1 ≤ 9), (by decide : 2 ≤ 99)⟩, fun k hk => absurd hk (Nat.not_lt_zero k)⟩
  · exact ⟨k4, k5, k6, k3, fun k hk => absurd hk (Nat.not_lt_zero k)⟩
  · intro t ht
    refine ⟨0, by omega, rfl, y3 t, Or.inl ⟨rfl, ?_⟩, fun i hi => by rw [y5]; rfl⟩
    rw [y4]
    rcases (show t = 0 ∨ t = 1 ∨ t = 2 ∨ t = 3 by omega) with rfl | rfl | rfl | rfl <;> decide
  · exact ⟨y6 0, fun i hi => y6 (i + 1)⟩
