/-! ===== BOTH TOGETHER ===== -/
def isum (f : Nat → Int32) : Nat → Int32
  | 0 => 0
  | n + 1 => isum f n + f n
theorem isum_cong {f g : Nat → Int32} : ∀ {n : Nat}, (∀ k, k < n → f k = g k) → isum f n = isum g n
  | 0, _ => rfl
  | n + 1, h => by rw [isum, isum, isum_cong (n := n) (fun k hk => h k (by omega)), h n (by omega)]
theorem isum_upd (f : Nat → Int32) (i : Nat) (c : Int32) : ∀ n, i < n → isum (upd f i (f i + c)) n = isum f n + c
  | 0, h => absurd h (by omega)
  | n + 1, h => by
    rw [isum, isum]
    by_cases e : i = n
    · subst e
      rw [isum_cong (f := upd f i (f i + c)) (g := f) (fun k hk => pk_un (by omega)), pk_us, Int32.add_assoc]
    · rw [isum_upd f i c n (by omega), pk_un (by omega), Int32.add_assoc, Int32.add_comm c, ← Int32.add_assoc]
/-- the tape -/
def TPR (t : TD) (m : MD) : Prop := ∃ n, n ≤ 120 ∧ m_taped m = nI n ∧ t_length t = nI n ∧ ∀ i, i < n → m_tape m i = t_bytes t i &&& 255
def SHR (s : SD) (m : MD) (t : Nat) : Prop := ∃ k, k ≤ 40 ∧ s_size s = nI k ∧ m_sizes m t = nI k ∧ ((s_bits s = 0 ∧ m_bitsOf m t = -1) ∨ ∃ b, (b = 8 ∨ b = 16 ∨ b = 64) ∧ s_bits s = nI b ∧ m_bitsOf m t = nI b) ∧ ∀ i, i < 40 → m_numbers m (40 * t + i) = s_numbers s i
def TLR (f : Nat → Int32) (m : MD) : Prop := m_findings m 0 = isum f 7 ∧ ∀ i, i < 7 → m_findings m (i + 1) = f i
def KPR (x : XD) (m : MD) : Prop := (x_isKept x = 0 ∧ m_isKept m = 0) ∨ (x_isKept x = 1 ∧ m_isKept m = 1 ∧ ∃ k, Inv k ∧ SR k (m_kept m) ∧ VR k (x_kept x))
def Rest (x : XD) (m : MD) : Prop := KPR x m ∧ v_children (x_trial x) 12 = -1 ∧ TPR (r_tape (x_reader x)) m ∧ (∀ t, t < 4 → SHR (x_sheets x t) m t) ∧ TLR (x_tally x) m ∧ m_asked m = -1
def Sys (x : XD) (m : MD) : Prop := ∃ a, Inv a ∧ SR a (m_s m) ∧ VR a (x_valley x) ∧ Rest x m
def Ok {ρ : Type} (u : Option (ρ × XD)) (w : Option (ρ × MD)) : Prop := ∃ r x' m', u = some (r, x') ∧ w = some (r, m') ∧ Sys x' m'
theorem m_in (N : Nat) (x lo hi : Int32) {l h : Int64} (hl : l = lo.toInt64) (hh : h = hi.toInt64) : f_X5_isIn N x.toInt64 l h = some (if lo ≤ x ∧ x ≤ hi then 1 else 0) := by
  subst hl; subst hh
  unfold f_X5_isIn
  simp only [lg_cmp_lt, lg_cmp_gt, Int64.lt_iff_toInt_lt, Int32.toInt_toInt64, fa_le']
  by_cases c1 : x.toInt < lo.toInt
  · rw [if_pos c1, if_neg (by omega)]
  · rw [if_neg c1]
    by_cases c2 : hi.toInt < x.toInt
    · rw [if_pos c2, if_neg (by omega)]
    · rw [if_neg c2, if_pos (by omega)]
theorem mi_0_1 (N : Nat) (x : Int32) : f_X5_isIn N x.toInt64 0 1 = some (if 0 ≤ x ∧ x ≤ 1 then 1 else 0) := m_in N x 0 1 (by decide) (by decide)
theorem mi_0_9 (N : Nat) (x : Int32) : f_X5_isIn N x.toInt64 0 9 = some (if 0 ≤ x ∧ x ≤ 9 then 1 else 0) := m_in N x 0 9 (by decide) (by decide)
theorem mi_0_99 (N : Nat) (x : Int32) : f_X5_isIn N x.toInt64 0 99 = some (if 0 ≤ x ∧ x ≤ 99 then 1 else 0) := m_in N x 0 99 (by decide) (by decide)
theorem mi_0_2 (N : Nat) (x : Int32) : f_X5_isIn N x.toInt64 0 2 = some (if 0 ≤ x ∧ x ≤ 2 then 1 else 0) := m_in N x 0 2 (by decide) (by decide)
theorem mi_0_5 (N : Nat) (x : Int32) : f_X5_isIn N x.toInt64 0 5 = some (if 0 ≤ x ∧ x ≤ 5 then 1 else 0) := m_in N x 0 5 (by decide) (by decide)
theorem mi_0_120 (N : Nat) (x : Int32) : f_X5_isIn N x.toInt64 0 120 = some (if 0 ≤ x ∧ x ≤ 120 then 1 else 0) := m_in N x 0 120 (by decide) (by decide)
theorem mi_0_6 (N : Nat) (x : Int32) : f_X5_isIn N x.toInt64 0 6 = some (if 0 ≤ x ∧ x ≤ 6 then 1 else 0) := m_in N x 0 6 (by decide) (by decide)
theorem mi_0_999999 (N : Nat) (x : Int32) : f_X5_isIn N x.toInt64 0 999999 = some (if 0 ≤ x ∧ x ≤ 999999 then 1 else 0) := m_in N x 0 999999 (by decide) (by decide)
theorem mi_1_120 (N : Nat) (x : Int32) : f_X5_isIn N x.toInt64 1 120 = some (if 1 ≤ x ∧ x ≤ 120 then 1 else 0) := m_in N x 1 120 (by decide) (by decide)
theorem mi_0_3 (N : Nat) (x : Int32) : f_X5_isIn N x.toInt64 0 3 = some (if 0 ≤ x ∧ x ≤ 3 then 1 else 0) := m_in N x 0 3 (by decide) (by decide)
theorem mi_1_100 (N : Nat) (x : Int32) : f_X5_isIn N x.toInt64 1 100 = some (if 1 ≤ x ∧ x ≤ 100 then 1 else 0) := m_in N x 1 100 (by decide) (by decide)
theorem mi_0_100 (N : Nat) (x : Int32) : f_X5_isIn N x.toInt64 0 100 = some (if 0 ≤ x ∧ x ≤ 100 then 1 else 0) := m_in N x 0 100 (by decide) (by decide)
theorem mi_1_4 (N : Nat) (x : Int32) : f_X5_isIn N x.toInt64 1 4 = some (if 1 ≤ x ∧ x ≤ 4 then 1 else 0) := m_in N x 1 4 (by decide) (by decide)
theorem mi_m_6 (N : Nat) (x : Int32) : f_X5_isIn N x.toInt64 (-1) 6 = some (if -1 ≤ x ∧ x ≤ 6 then 1 else 0) := m_in N x (-1) 6 (by decide) (by decide)
theorem m_mark (N : Nat) (x : Int32) : f_X5_isMark N x = some (if 0 ≤ x ∧ x ≤ 8 then 1 else 0) := by
  unfold f_X5_isMark
  simp only [fa_le', fa_lt']
  have e8 : (8 : Int32).toInt = 8 := by decide
  have e9 : (9 : Int32).toInt = 9 := by decide
  have e0 : (0 : Int32).toInt = 0 := by decide
  rw [e8, e9, e0]
  by_cases c1 : x.toInt < 0
  · rw [if_pos c1, if_neg (by omega)]
  · rw [if_neg c1]
    by_cases c2 : 9 ≤ x.toInt
    · rw [if_pos c2, if_neg (by omega)]
    · rw [if_neg c2, if_pos (by omega)]
theorem in_nat {x : Int32} {m : Nat} (hm : m < 2147483648) (h : 0 ≤ x ∧ x ≤ nI m) : ∃ j, j ≤ m ∧ x = nI j :=
  nI_of2 (M := nI m) (nI_toInt (by omega)) (fun z => by have h1 := h.1; rw [fa_le'] at h1; rw [fa_lt'] at z; omega) h.2
theorem if10 {c : Prop} [Decidable c] {α : Type} (A B : α) : (if (if c then (1 : Int32) else 0) = 0 then A else B) = if c then B else A := by
  by_cases h : c
  · rw [if_pos h, if_pos h, if_neg (by decide)]
  · rw [if_neg h, if_neg h, if_pos rfl]
theorem if01 {c : Prop} [Decidable c] {α : Type} (A B : α) : (if (if c then (0 : Int32) else 1) = 0 then A else B) = if c then A else B := by
  by_cases h : c
  · rw [if_pos h, if_pos h, if_pos rfl]
  · rw [if_neg h, if_neg h, if_neg (by decide)]
theorem ckz10 {c : Prop} [Decidable c] {α : Type} (k : Unit → Option α) : (ckz (if c then (1 : Int32) else 0)).bind k = k () := by
  by_cases h : c
  · rw [if_pos h]; rfl
  · rw [if_neg h]; rfl
/-- one of the people -/
abbrev isP (n : Nat) (x : Int32) : Prop := 0 ≤ x ∧ x < nI n
theorem isP_nat {n : Nat} (hn : n ≤ 12) {x : Int32} (h : isP n x) : ∃ j, j < n ∧ x = nI j := by
  obtain ⟨j, h1, rfl⟩ := in_nat (m := n) (by omega) ⟨h.1, by have h2 := h.2; rw [fa_lt'] at h2; rw [fa_le']; omega⟩
  exact ⟨j, (nI_ltI (by omega) (by omega)).mp h.2, rfl⟩
theorem isP_of {n j : Nat} (hn : n ≤ 12) (h : j < n) : isP n (nI j) := ⟨nI_pos' (by omega), nI_lt h (by omega)⟩
section OPS
variable {N : Nat} {x : XD} {m : MD} {a : AS}
theorem x_one (hI : Inv a) (hV : VR a (x_valley x)) (p : Int32) : f_X4_isOne N p x = some (if isP (a_n a) p then 1 else 0) := by
  have hn := hI.1
  unfold f_X4_isOne
  rw [x_in, some_bind', hV.1]
  have e : (0 ≤ p ∧ p ≤ nI (a_n a) - 1) ↔ isP (a_n a) p := by
    unfold isP
    have e1 : (nI (a_n a) - 1 : Int32).toInt = (a_n a : Int) - 1 := by
      have z := pk_sub_toInt (a := a_n a) (b := 1) (by omega) (by omega)
      exact z
    rw [fa_le', fa_le', fa_lt', e1, nI_toInt (by omega)]
    omega
  by_cases c : isP (a_n a) p
  · rw [if_pos (e.mpr c), if_pos c]; rfl
  · rw [if_neg (fun z => c (e.mp z)), if_neg c]; rfl
theorem m_one (hI : Inv a) (hS : SR a (m_s m)) (p : Int32) : f_X5_isOne N p m = some (if isP (a_n a) p then 1 else 0) := by
  have hn := hI.1
  unfold f_X5_isOne
  have e0 : (0 : Int32).toInt = 0 := by decide
  by_cases c1 : p < 0
  · rw [if_pos c1, if_neg (fun z => by have z1 := z.1; rw [fa_le'] at z1; rw [fa_lt'] at c1; omega)]
  · rw [if_neg c1, m_n hS, some_bind']
    by_cases c2 : nI (a_n a) ≤ p
    · rw [if_pos c2, if_neg (fun z => by have z1 := z.2; rw [fa_lt'] at z1; rw [fa_le'] at c2; omega)]
    · rw [if_neg c2, if_pos ⟨by rw [fa_lt'] at c1; rw [fa_le']; omega, by rw [fa_le'] at c2; rw [fa_lt']; omega⟩]
abbrev are2 (n : Nat) (p q : Int32) : Prop := isP n p ∧ isP n q ∧ p ≠ q
theorem x_two (hI : Inv a) (hV : VR a (x_valley x)) (p q : Int32) : f_X4_areTwo N p q x = some (if are2 (a_n a) p q then 1 else 0) := by
  unfold f_X4_areTwo
  by_cases c : p = q
  · rw [if_pos c, if_neg (fun z => z.2.2 c)]
  · rw [if_neg c, x_one hI hV, some_bind']
    by_cases c1 : isP (a_n a) p
    · rw [if_pos c1, if_neg (by decide), x_one hI hV, some_bind']
      by_cases c2 : isP (a_n a) q
      · rw [if_pos c2, if_neg (by decide), if_pos ⟨c1, c2, c⟩]
      · rw [if_neg c2, if_pos rfl, if_neg (fun z => c2 z.2.1)]
    · rw [if_neg c1, if_pos rfl, if_neg (fun z => c1 z.1)]
theorem m_two (hI : Inv a) (hS : SR a (m_s m)) (p q : Int32) : f_X5_areTwo N p q m = some (if are2 (a_n a) p q then 1 else 0) := by
  unfold f_X5_areTwo
  rw [m_one hI hS, some_bind']
  by_cases c1 : isP (a_n a) p
  · rw [if_pos c1, if_neg (by decide), m_one hI hS, some_bind']
    by_cases c2 : isP (a_n a) q
    · rw [if_pos c2, if_neg (by decide)]
      by_cases c : p = q
      · rw [if_pos c, if_neg (fun z => z.2.2 c)]
      · rw [if_neg c, if_pos ⟨c1, c2, c⟩]
    · rw [if_neg c2, if_pos rfl, if_neg (fun z => c2 z.2.1)]
  · rw [if_neg c1, if_pos rfl, if_neg (fun z => c1 z.1)]
theorem x_late (hI : Inv a) (hV : VR a (x_valley x)) {n : Nat} (hn : n ≤ 100) : f_X4_isTooLate N (nI n) x = some (if a_y a + n ≤ 9999 then 0 else 1) := by
  have hy := hI.2.1
  unfold f_X4_isTooLate
  rw [hV.2.1, nI_addn, lit_nI 9999]
  simp only [nI_le_iff (show a_y a + n < 2147483648 by omega) (show 9999 < 2147483648 by decide)]
  split <;> rfl
theorem m_far (hI : Inv a) (hS : SR a (m_s m)) {n : Nat} (hn : n ≤ 100) : f_X5_isFar N (nI n) m = some (if a_y a + n ≤ 9999 then 0 else 1) := by
  have hy := hI.2.1
  unfold f_X5_isFar
  rw [m_y hS, some_bind', nI_addn, lit_nI 9999]
  simp only [nI_le_iff (show a_y a + n < 2147483648 by omega) (show 9999 < 2147483648 by decide)]
  split <;> rfl
theorem x_tell {c : Int32} {i : Nat} (hi : i < 7) (hc : (-1000000001 : Int32) - c = nI i) : f_X4_tell N c x = some (c, x_set_tally x (upd (x_tally x) i (x_tally x i + 1))) := by
  unfold f_X4_tell
  rw [lt_eq, hc, lit_nI 6, x_in1 N (by omega) (by decide), some_bind', if_neg (by decide), rd_nI (by omega) (by decide), some_bind', ck_nI (by omega) (by decide), some_bind', lt_eq, nI_clamp (by omega)]
theorem m_finds {c : Int32} {i : Nat} (hi : i < 7) (hc : (-1000000001 : Int32) - c = nI i) : f_X5_finds N c m = some (c, m_set_findings m (upd (upd (m_findings m) 0 (m_findings m 0 + 1)) (i + 1) (m_findings m (i + 1) + 1))) := by
  unfold f_X5_finds
  rw [hc, nI_1, rd_at (i := (0 : Int32)) 0 rfl (by decide) (by decide), some_bind', ck_at (i := (0 : Int32)) 0 rfl (by decide) (by decide), some_bind', lt_eq, rd_nI (by omega) (by decide), some_bind', ck_nI (by omega) (by decide), some_bind', lt_eq, nI_clamp (by omega), sb_cl0]
  have e : m_findings (m_set_findings m (upd (m_findings m) 0 (m_findings m 0 + 1))) (i + 1) = m_findings m (i + 1) := by
    show upd (m_findings m) 0 (m_findings m 0 + 1) (i + 1) = _
    exact pk_un (by omega)
  rw [e]
  rfl
theorem tl_tell {f : Nat → Int32} (h : TLR f m) {i : Nat} (hi : i < 7) : TLR (upd f i (f i + 1)) (m_set_findings m (upd (upd (m_findings m) 0 (m_findings m 0 + 1)) (i + 1) (m_findings m (i + 1) + 1))) := by
  obtain ⟨h1, h2⟩ := h
  refine ⟨?_, fun j hj => ?_⟩
  · rw [isum_upd f i 1 7 hi, ← h1]
    show upd (upd (m_findings m) 0 (m_findings m 0 + 1)) (i + 1) (m_findings m (i + 1) + 1) 0 = _
    exact (pk_un (by omega)).trans pk_us
  · by_cases c : j = i
    · subst c
      rw [pk_us, ← h2 j hj]
      exact pk_us
    · rw [pk_un c]
      exact (pk_un (by omega)).trans ((pk_un (by omega)).trans (h2 j hj))
theorem rest_tell (h : Rest x m) {i : Nat} (hi : i < 7) : Rest (x_set_tally x (upd (x_tally x) i (x_tally x i + 1))) (m_set_findings m (upd (upd (m_findings m) 0 (m_findings m 0 + 1)) (i + 1) (m_findings m (i + 1) + 1))) := by
  obtain ⟨h1, h2, h3, h4, h5, h6⟩ := h
  exact ⟨h1, h2, h3, h4, tl_tell h5 hi, h6⟩
theorem ok_tell (h : Sys x m) (c : Int32) (i : Nat) (hi : i < 7) (hc : (-1000000001 : Int32) - c = nI i) : Ok (bd2 (f_X4_tell N c x) fun r d => some (r, d)) (bd2 (f_X5_finds N c m) fun r d => some (r, d)) := by
  obtain ⟨a, h1, h2, h3, h4⟩ := h
  rw [x_tell hi hc, m_finds hi hc, bd2_some, bd2_some]
  exact ⟨_, _, _, rfl, rfl, a, h1, h2, h3, rest_tell h4 hi⟩
theorem ok_same {ρ : Type} (h : Sys x m) (r : ρ) : Ok (some (r, x)) (some (r, m)) := ⟨r, x, m, rfl, rfl, h⟩
/-- both have a new valley -/
theorem ok_val {ρ : Type} {a' : AS} {v' : VD} {s' : Nat → Int32} (hR : Rest x m) (r : ρ) (hI : Inv a') (hS : SR a' s') (hV : VR a' v') : Ok (some (r, x_set_valley x v')) (some (r, m_set_s m s')) := ⟨r, _, _, rfl, rfl, a', hI, hS, hV, hR⟩
theorem m_becomes (N : Nat) (m : MD) {p : Int32} {k : Nat} (hp : p = nI k) (hk : k < 201) (v : Int32) : f_X5_becomes N p v m = some (m_s m k, m_set_s m (upd (m_s m) k v)) := by
  subst hp
  unfold f_X5_becomes
  rw [rd_nI hk (by decide), some_bind', ck_nI hk (by decide), some_bind', lt_eq, nI_clamp (by omega)]
/-! the operations -/
theorem op_mark (hN : 5000 ≤ N) (h : Sys x m) (p1 p2 p3 : Int32) : Ok (f_X4_mark N p1 p2 p3 x) (f_X5_mark N p1 p2 p3 m) := by
  have hh := h
  obtain ⟨a, hI, hS, hV, hR⟩ := h
  have bad : Ok (bd2 (f_X4_tell N (-1000000001) x) fun r d => some (r, d)) (bd2 (f_X5_finds N (-1000000001) m) fun r d => some (r, d)) := ok_tell hh _ 0 (by decide) (by decide)
  simp only [f_X4_mark, f_X4_mark_J41, f_X5_mark, f_X5_mark_J33, x_in, m_mark, mi_0_1, mi_0_9, mi_0_99, some_bind', if10]
  by_cases c1 : 0 ≤ p1 ∧ p1 ≤ 8
  · simp only [if_pos c1]
    obtain ⟨k, hk, rfl⟩ := in_nat (m := 8) (by decide) c1
    by_cases c2 : p2 = 0
    · subst c2
      simp only [if_pos (show (0 : Int32) ≤ 0 ∧ (0 : Int32) ≤ 1 by decide), if_true, if_neg (show ¬ (0 : Int32) = 1 by decide)]
      by_cases c3 : 0 ≤ p3 ∧ p3 ≤ 9
      · simp only [if_pos c3]
        obtain ⟨w, hw, rfl⟩ := in_nat (m := 9) (by decide) c3
        obtain ⟨v', q1, q2, -⟩ := v_putWeight hN hV (m := k) (by omega) w
        rw [q1, bd2_some, lt_eq, m_becomes N m (p := 3 + nI k) (k := 3 + k) (by rw [lit_nI 3, nI_addn]) (by omega), bd2_some, (hS.2.2.2.1 k (by omega)).1]
        exact ok_val hR _ (hI.wt hw) (hS.wt w (by omega)) q2
      · simp only [if_neg c3]; exact bad
    · simp only [if_neg c2]
      by_cases c3 : p2 = 1
      · subst c3
        simp only [if_pos (show (0 : Int32) ≤ 1 ∧ (1 : Int32) ≤ 1 by decide), if_true]
        by_cases c4 : 0 ≤ p3 ∧ p3 ≤ 99
        · simp only [if_pos c4]
          obtain ⟨w, hw, rfl⟩ := in_nat (m := 99) (by decide) c4
          rw [x_exch N (show k < 9 by omega) (by decide), bd2_some, lt_eq, m_becomes N m (p := 12 + nI k) (k := 12 + k) (by rw [lit_nI 12, nI_addn]) (by omega), bd2_some, (hS.2.2.2.1 k (by omega)).2, (hV.2.2.2.1 k (by omega)).2]
          exact ok_val hR _ (hI.co hw) (hS.co w (by omega)) (hV.co w)
        · simp only [if_neg c4]; exact bad
      · simp only [if_neg c3, if_neg (show ¬ (0 ≤ p2 ∧ p2 ≤ 1) from fun z => by
          obtain ⟨j, hj, rfl⟩ := in_nat (m := 1) (by decide) z
          have : j = 0 ∨ j = 1 := by omega
          rcases this with e | e
          · exact c2 (by rw [e]; rfl)
          · exact c3 (by rw [e]; rfl))]
        exact bad
  · simp only [if_neg c1]; exact bad
theorem op_let (h : Sys x m) (p1 : Int32) : Ok (f_X4_let N p1 x) (f_X5_let N p1 m) := by
  have hh := h
  obtain ⟨a, hI, hS, hV, hR⟩ := h
  simp only [f_X4_let, f_X5_let, x_in, mi_0_2, some_bind', if10]
  by_cases c1 : 0 ≤ p1 ∧ p1 ≤ 2
  · simp only [if_pos c1]
    obtain ⟨k, hk, rfl⟩ := in_nat (m := 2) (by decide) c1
    rw [lt_eq, lt_eq, m_becomes N m (p := 2) (k := 2) rfl (by omega), bd2_some, hV.2.2.1, hS.2.2.1]
    exact ok_val hR _ (hI.l hk) (hS.l k) (hV.l k)
  · simp only [if_neg c1]
    exact ok_tell hh _ 0 (by decide) (by decide)
theorem op_person (hN : 5000 ≤ N) (h : Sys x m) (p1 p2 : Int32) : Ok (f_X4_person N p1 p2 x) (f_X5_person N p1 p2 m) := by
  have hh := h
  obtain ⟨a, hI, hS, hV, hR⟩ := h
  have hn := hI.1
  have bad : Ok (bd2 (f_X4_tell N (-1000000001) x) fun r d => some (r, d)) (bd2 (f_X5_finds N (-1000000001) m) fun r d => some (r, d)) := ok_tell hh _ 0 (by decide) (by decide)
  simp only [f_X4_person, f_X5_person, f_X4_isKind, x_in, mi_0_5, mi_0_120, some_bind', ckz10, if10, m_n hS]
  by_cases c1 : 0 ≤ p1 ∧ p1 ≤ 5
  · simp only [if_pos c1]
    by_cases c2 : 0 ≤ p2 ∧ p2 ≤ 120
    · simp only [if_pos c2]
      obtain ⟨k, hk, rfl⟩ := in_nat (m := 5) (by decide) c1
      obtain ⟨g, hg, rfl⟩ := in_nat (m := 120) (by decide) c2
      by_cases c3 : a_n a = 12
      · rw [v_addFull hV c3, bd2_some, lt_eq, if_pos rfl, if_pos (by rw [c3]; rfl)]
        exact ok_tell hh _ 1 (by decide) (by decide)
      · obtain ⟨v', q1, q2, -⟩ := v_addOne (N := N) hI hV (kd := k) (ag := g) (by omega)
        obtain ⟨s', r1, r2⟩ := m_comes (N := N) hN hI hS (kd := k) (ag := g) (by omega)
        rw [q1, bd2_some, lt_eq, if_neg (nI_ne_m1 _ (by omega)), if_neg (by rw [lit_nI 12, nI_eq_iff (by omega) (by decide)]; exact c3), r1, bd2_some]
        exact ok_val hR _ (newP_inv hI hk hg (by omega)) r2 q2
    · simp only [if_neg c2]; exact bad
  · simp only [if_neg c1]; exact bad
end OPS
