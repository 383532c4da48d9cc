/-! ===== OPERATIONS: sheets ===== -/
theorem sel_none {α : Type} (y : α) (k : Nat → α) : sel none y k = y := rfl
theorem sel_some {α : Type} (i : Nat) (y : α) (k : Nat → α) : sel (some i) y k = k i := rfl
theorem sPut_s (f : Nat → SD) (i : Nat) (d : SD) : sPut f i d i = d := by unfold sPut; rw [Nat.beq_refl]; rfl
theorem sPut_n (f : Nat → SD) {i k : Nat} (d : SD) (h : k ≠ i) : sPut f i d k = f k := by
  unfold sPut
  have e : Nat.beq k i = false := by
    cases c : Nat.beq k i with
    | false => rfl
    | true => exact absurd (Nat.eq_of_beq_eq_true c) h
  rw [e]
  rfl
theorem sub_toInt {y z : Int32} (h1 : 0 ≤ y.toInt) (h2 : 0 ≤ z.toInt) : (y - z).toInt = y.toInt - z.toInt := by
  have a1 := Int32.toInt_lt y
  have a2 := Int32.toInt_lt z
  rw [Int32.toInt_sub, Int.bmod_eq_of_le (by omega) (by omega)]
theorem isP_nat' {n : Nat} (hn : n ≤ 100) {y : Int32} (h : isP n y) : ∃ j, j < n ∧ y = nI j := by
  obtain ⟨j, h1, rfl⟩ := in_nat (m := n) (by omega) ⟨h.1, by have h2 := h.2; rw [fa_lt'] at h2; rw [fa_le']; omega⟩
  exact ⟨j, (nI_ltI (by omega) (by omega)).mp h.2, rfl⟩
theorem sizeP {k : Nat} (hk : k ≤ 100) (p : Int32) : (0 ≤ p ∧ p ≤ nI k - 1) = isP k p := by
  apply propext
  have e1 : (nI k - 1 : Int32).toInt = (k : Int) - 1 := pk_sub_toInt (a := k) (b := 1) (by omega) (by omega)
  unfold isP
  rw [fa_le', fa_le', fa_lt', e1, nI_toInt (by omega)]
  omega
/-- what no sheet's change changes -/
def KN (d d' : MD) : Prop := m_s d' = m_s d ∧ m_kept d' = m_kept d ∧ m_isKept d' = m_isKept d ∧ m_findings d' = m_findings d ∧ m_tape d' = m_tape d ∧ m_taped d' = m_taped d ∧ m_asked d' = m_asked d
theorem KN.rf (d : MD) : KN d d := ⟨rfl, rfl, rfl, rfl, rfl, rfl, rfl⟩
theorem KN.tr {d e f : MD} (h : KN d e) (k : KN e f) : KN d f := by
  obtain ⟨h1, h2, h3, h4, h5, h6, h7⟩ := h
  obtain ⟨k1, k2, k3, k4, k5, k6, k7⟩ := k
  exact ⟨k1.trans h1, k2.trans h2, k3.trans h3, k4.trans h4, k5.trans h5, k6.trans h6, k7.trans h7⟩
theorem KN.num (d : MD) (f) : KN d (m_set_numbers d f) := ⟨rfl, rfl, rfl, rfl, rfl, rfl, rfl⟩
theorem KN.bits (d : MD) (f) : KN d (m_set_bitsOf d f) := ⟨rfl, rfl, rfl, rfl, rfl, rfl, rfl⟩
theorem KN.size (d : MD) (f) : KN d (m_set_sizes d f) := ⟨rfl, rfl, rfl, rfl, rfl, rfl, rfl⟩
theorem rest_sh {x : XD} {m m' : MD} (h : Rest x m) (k : KN m m') {f : Nat → SD} (hf : ∀ t, t < 4 → SHR (f t) m' t) : Rest (x_set_sheets x f) m' := by
  obtain ⟨h1, h2, h3, h4, h5, h6⟩ := h
  obtain ⟨k1, k2, k3, k4, k5, k6, k7⟩ := k
  refine ⟨?_, h2, ?_, hf, ?_, k7.trans h6⟩
  · unfold KPR at h1 ⊢
    rw [k2, k3]
    exact h1
  · unfold TPR at h3 ⊢
    rw [k5, k6]
    exact h3
  · unfold TLR at h5 ⊢
    rw [k4]
    exact h5
theorem ok_sh {ρ : Type} {x : XD} {m m' : MD} {a : AS} (hR : Rest x m) (r : ρ) (hI : Inv a) (hS : SR a (m_s m)) (hV : VR a (x_valley x)) (k : KN m m') {f : Nat → SD} (hf : ∀ t, t < 4 → SHR (f t) m' t) : Ok (some (r, x_set_sheets x f)) (some (r, m')) := ⟨r, _, _, rfl, rfl, a, hI, by rw [k.1]; exact hS, hV, rest_sh hR k hf⟩
section SH
variable {N : Nat} {x : XD} {m : MD} {a : AS}
theorem x_shIn {t : Nat} (ht : t < 4) : f_X4_sheetAt N (nI t) x = some (some t) := by
  unfold f_X4_sheetAt
  rw [lit_nI 3, x_in1 N (by omega) (by decide), some_bind', if_neg (by decide), ck_nI ht (by decide), some_bind', nI_clamp (by omega)]
theorem x_shOut {p : Int32} (h : ¬ (0 ≤ p ∧ p ≤ 3)) : f_X4_sheetAt N p x = some none := by
  unfold f_X4_sheetAt
  rw [x_in, if_neg h, some_bind', if_pos rfl]
theorem m_sh (p : Int32) : f_X5_isSheet N p = some (if 0 ≤ p ∧ p ≤ 3 then 1 else 0) := by
  unfold f_X5_isSheet
  simp only [fa_le', fa_lt']
  have e3 : (3 : Int32).toInt = 3 := by decide
  have e4 : (4 : Int32).toInt = 4 := by decide
  have e0 : (0 : Int32).toInt = 0 := by decide
  rw [e3, e4, e0]
  by_cases c1 : p.toInt < 0
  · rw [if_pos c1, if_neg (by omega)]
  · rw [if_neg c1]
    by_cases c2 : 4 ≤ p.toInt
    · rw [if_pos c2, if_neg (by omega)]
    · rw [if_neg c2, if_pos (by omega)]
theorem ok_tellL (h : Sys x m) (c : Int32) (i : Nat) (hi : i < 7) (hc : (-1000000001 : Int32) - c = nI i) : Ok (bd2 (f_X4_tell N c x) fun r d => some (r.toInt64, d)) (bd2 (f_X5_finds N c m) fun r d => some (r.toInt64, d)) := by
  obtain ⟨a, h1, h2, h3, h4⟩ := h
  rw [x_tell hi hc, m_finds hi hc, bd2_some, bd2_some]
  exact ⟨_, _, _, rfl, rfl, a, h1, h2, h3, rest_tell h4 hi⟩
theorem fillL : ∀ (t k n : Nat) (f : Nat → Int64), k + t = 40 → t < n → ∃ g, f_J7_fill_d0a16_L6 N 40 n (0 : Int64) (nI k) (nI 40) f = some g ∧ (∀ j, k ≤ j → j < 40 → g j = 0) ∧ ∀ j, j < k → g j = f j := by
  intro t
  induction t with
  | zero =>
    intro k n f h1 h2
    obtain ⟨n', rfl⟩ : ∃ n', n = n' + 1 := ⟨n - 1, by omega⟩
    obtain rfl : k = 40 := by omega
    rw [f_J7_fill_d0a16_L6, if_pos (nI_le (Nat.le_refl 40) (by decide))]
    exact ⟨f, rfl, fun j h3 h4 => absurd h4 (by omega), fun _ _ => rfl⟩
  | succ t ih =>
    intro k n f h1 h2
    obtain ⟨n', rfl⟩ : ∃ n', n = n' + 1 := ⟨n - 1, by omega⟩
    rw [f_J7_fill_d0a16_L6, if_neg (nI_ge (show k < 40 by omega) (by decide)), ck_nI (by omega) (by decide), some_bind', lt_eq, lt_eq, nI_1, nI_clamp (by omega)]
    obtain ⟨g, q1, q2, q3⟩ := ih (k + 1) n' (vp_updL f k 0) (by omega) (by omega)
    refine ⟨g, q1, fun j h3 h4 => ?_, fun j h3 => (q3 j (by omega)).trans (pk_uLn (by omega))⟩
    by_cases c : j = k
    · rw [c]; exact (q3 k (by omega)).trans pk_uLs
    · exact q2 j (by omega) h4
theorem x_begin (hN : 5000 ≤ N) (s : SD) (b y : Int32) : ∃ g, f_X0_begin N b y s = some (if b = 0 then 0 else y, (g, b, if b = 0 then 0 else y)) ∧ ∀ j, j < 40 → g j = 0 := by
  have fl : ∀ f, ∃ g, f_J7_fill_d0a16 N 40 (0 : Int64) f = some g ∧ ∀ j, j < 40 → g j = 0 := fun f => by
    obtain ⟨g, q1, q2, -⟩ := fillL (N := N) 40 0 N f (by omega) (by omega)
    unfold f_J7_fill_d0a16
    rw [lt_eq]
    exact ⟨g, q1, fun j hj => q2 j (by omega) hj⟩
  obtain ⟨g, q1, q2⟩ := fl (s_numbers s)
  refine ⟨g, ?_, q2⟩
  unfold f_X0_begin f_X0_begin_J15
  rw [lt_eq]
  by_cases c : b = 0
  · rw [if_pos c, if_pos c, lt_eq]
    have q1' : f_J7_fill_d0a16 N 40 (0 : Int64) (s_numbers (s_set_size (s_set_bits s b) 0)) = some g := q1
    rw [q1', some_bind', lt_eq]
    rfl
  · rw [if_neg c, if_neg c, lt_eq]
    have q1' : f_J7_fill_d0a16 N 40 (0 : Int64) (s_numbers (s_set_size (s_set_bits s b) y)) = some g := q1
    rw [q1', some_bind', lt_eq]
    rfl
theorem m_sheet_L {t : Nat} (ht : t < 4) : ∀ (u k n : Nat) (d : MD), k + u = 40 → u < n → ∃ d', f_X5_sheet_L94 N n (nI t) (nI k) d = some (m_sizes d t, d') ∧ KN d d' ∧ m_sizes d' = m_sizes d ∧ m_bitsOf d' = m_bitsOf d ∧ (∀ j, 40 * t + k ≤ j → j < 40 * t + 40 → m_numbers d' j = 0) ∧ ∀ j, (j < 40 * t + k ∨ 40 * t + 40 ≤ j) → m_numbers d' j = m_numbers d j := by
  intro u
  induction u with
  | zero =>
    intro k n d h1 h2
    obtain ⟨n', rfl⟩ : ∃ n', n = n' + 1 := ⟨n - 1, by omega⟩
    obtain rfl : k = 40 := by omega
    rw [f_X5_sheet_L94, if_pos (show (40 : Int32) ≤ nI 40 from nI_le (Nat.le_refl 40) (by decide)), rd_nI ht (by decide), some_bind']
    exact ⟨d, rfl, KN.rf d, rfl, rfl, fun j h3 h4 => absurd h4 (by omega), fun _ _ => rfl⟩
  | succ u ih =>
    intro k n d h1 h2
    obtain ⟨n', rfl⟩ : ∃ n', n = n' + 1 := ⟨n - 1, by omega⟩
    have ei : ((40 : Int32) * nI t) + nI k = nI (40 * t + k) := by rw [lit_nI 40, nI_muln, nI_addn]
    rw [f_X5_sheet_L94, if_neg (show ¬ (40 : Int32) ≤ nI k from nI_ge (show k < 40 by omega) (by decide)), ei, ck_nI (by omega) (by decide), some_bind', lt_eq, lt_eq, nI_1, nI_clamp (by omega)]
    have z1 : KN d (m_set_numbers d (vp_updL (m_numbers d) (40 * t + k) 0)) := KN.num _ _
    have z2 : m_sizes (m_set_numbers d (vp_updL (m_numbers d) (40 * t + k) 0)) = m_sizes d := rfl
    have z3 : m_bitsOf (m_set_numbers d (vp_updL (m_numbers d) (40 * t + k) 0)) = m_bitsOf d := rfl
    have z4 : m_numbers (m_set_numbers d (vp_updL (m_numbers d) (40 * t + k) 0)) = vp_updL (m_numbers d) (40 * t + k) 0 := rfl
    generalize m_set_numbers d (vp_updL (m_numbers d) (40 * t + k) 0) = d1 at z1 z2 z3 z4 ⊢
    obtain ⟨d', q1, q2, q3, q4, q5, q6⟩ := ih (k + 1) n' d1 (by omega) (by omega)
    rw [z2] at q1 q3
    rw [z3] at q4
    refine ⟨d', q1, z1.tr q2, q3, q4, fun j h3 h4 => ?_, fun j hj => ?_⟩
    · by_cases c : j = 40 * t + k
      · rw [c, q6 _ (by omega), z4]; exact pk_uLs
      · exact q5 j (by omega) h4
    · rw [q6 j (by omega), z4]; exact pk_uLn (by omega)
theorem m_sheet36 (hN : 5000 ≤ N) {t b n : Nat} (ht : t < 4) (hb : b ≤ 64) (hn : n ≤ 40) : ∃ d', f_X5_sheet_J36 N (nI t) (nI b) (nI n) m = some (if nI b = 0 then 0 else nI n, d') ∧ KN m d' ∧ (∀ u, m_sizes d' u = if u = t then (if nI b = 0 then 0 else nI n) else m_sizes m u) ∧ (∀ u, m_bitsOf d' u = if u = t then (if nI b = 0 then -1 else nI b) else m_bitsOf m u) ∧ (∀ j, 40 * t ≤ j → j < 40 * t + 40 → m_numbers d' j = 0) ∧ ∀ j, (j < 40 * t ∨ 40 * t + 40 ≤ j) → m_numbers d' j = m_numbers m j := by
  unfold f_X5_sheet_J36 f_X5_sheet_J75
  rw [if_pos (nI_pos' (by omega)), if_pos (show nI n ≤ (40 : Int32) from nI_le hn (by decide))]
  have go : ∀ (bb ss : Int32), ∃ d', f_X5_sheet_L94 N N (nI t) 0 (m_set_sizes (m_set_bitsOf m (upd (m_bitsOf m) t bb)) (upd (m_sizes (m_set_bitsOf m (upd (m_bitsOf m) t bb))) t ss)) = some (ss, d') ∧ KN m d' ∧ (∀ u, m_sizes d' u = if u = t then ss else m_sizes m u) ∧ (∀ u, m_bitsOf d' u = if u = t then bb else m_bitsOf m u) ∧ (∀ j, 40 * t ≤ j → j < 40 * t + 40 → m_numbers d' j = 0) ∧ ∀ j, (j < 40 * t ∨ 40 * t + 40 ≤ j) → m_numbers d' j = m_numbers m j := by
    intro bb ss
    have z1 : KN m (m_set_sizes (m_set_bitsOf m (upd (m_bitsOf m) t bb)) (upd (m_sizes (m_set_bitsOf m (upd (m_bitsOf m) t bb))) t ss)) := (KN.bits _ _).tr (KN.size _ _)
    have z2 : m_sizes (m_set_sizes (m_set_bitsOf m (upd (m_bitsOf m) t bb)) (upd (m_sizes (m_set_bitsOf m (upd (m_bitsOf m) t bb))) t ss)) = upd (m_sizes m) t ss := rfl
    have z3 : m_bitsOf (m_set_sizes (m_set_bitsOf m (upd (m_bitsOf m) t bb)) (upd (m_sizes (m_set_bitsOf m (upd (m_bitsOf m) t bb))) t ss)) = upd (m_bitsOf m) t bb := rfl
    have z4 : m_numbers (m_set_sizes (m_set_bitsOf m (upd (m_bitsOf m) t bb)) (upd (m_sizes (m_set_bitsOf m (upd (m_bitsOf m) t bb))) t ss)) = m_numbers m := rfl
    generalize m_set_sizes (m_set_bitsOf m (upd (m_bitsOf m) t bb)) (upd (m_sizes (m_set_bitsOf m (upd (m_bitsOf m) t bb))) t ss) = d1 at z1 z2 z3 z4 ⊢
    obtain ⟨d', q1, q2, q3, q4, q5, q6⟩ := m_sheet_L (N := N) ht 40 0 N d1 (by omega) (by omega)
    have q1 : f_X5_sheet_L94 N N (nI t) 0 d1 = some (m_sizes d1 t, d') := q1
    rw [z2, pk_us] at q1
    refine ⟨d', q1, z1.tr q2, fun u => ?_, fun u => ?_, fun j h3 h4 => q5 j (by omega) h4, fun j hj => (q6 j (by omega)).trans (congrFun z4 j)⟩
    · rw [q3, z2]
      by_cases c : u = t
      · rw [if_pos c, c]; exact pk_us
      · rw [if_neg c]; exact pk_un c
    · rw [q4, z3]
      by_cases c : u = t
      · rw [if_pos c, c]; exact pk_us
      · rw [if_neg c]; exact pk_un c
  by_cases c : nI b = 0
  · rw [if_pos c, ck_nI ht (by decide), some_bind', lt_eq, if_pos c, some_bind', lt_eq, nI_clamp (by omega), if_pos c, if_pos c]
    exact go _ _
  · rw [if_neg c, ck_nI ht (by decide), some_bind', lt_eq, if_neg c, some_bind', lt_eq, nI_clamp (by omega), if_neg c, if_neg c]
    exact go _ _
theorem shr_other {s : SD} {d d' : MD} {u : Nat} (h : SHR s d u) (h1 : m_sizes d' u = m_sizes d u) (h2 : m_bitsOf d' u = m_bitsOf d u) (h3 : ∀ i, i < 40 → m_numbers d' (40 * u + i) = m_numbers d (40 * u + i)) : SHR s d' u := by
  obtain ⟨k, k1, k2, k3, k4, k5⟩ := h
  refine ⟨k, k1, k2, h1.trans k3, ?_, fun i hi => (h3 i hi).trans (k5 i hi)⟩
  rcases k4 with ⟨q1, q2⟩ | ⟨b, q1, q2, q3⟩
  · exact Or.inl ⟨q1, h2.trans q2⟩
  · exact Or.inr ⟨b, q1, q2, h2.trans q3⟩
/-- a sheet is begun on both sides -/
theorem ok_begin (hN : 5000 ≤ N) (h : Sys x m) {t b : Nat} (ht : t < 4) (hb : b = 0 ∨ b = 8 ∨ b = 16 ∨ b = 64) (p3 : Int32) :
    Ok (if 0 ≤ p3 then if p3 ≤ (40 : Int32) then bd2 (f_X0_begin N (nI b) p3 (sAt (x_sheets x) t)) (fun y d => lt (x_set_sheets x (sPut (x_sheets x) t d)) fun d2 => some (y, d2)) else bd2 (f_X4_tell N (-1000000001) x) (fun r d => some (r, d)) else bd2 (f_X4_tell N (-1000000007) x) (fun r d => some (r, d))) (f_X5_sheet_J36 N (nI t) (nI b) p3 m) := by
  have hh := h
  obtain ⟨a, hI, hS, hV, hR⟩ := h
  have hn := hI.1
  have bad : Ok (bd2 (f_X4_tell N (-1000000001) x) fun r d => some (r, d)) (bd2 (f_X5_finds N (-1000000001) m) fun r d => some (r, d)) := ok_tell hh _ 0 (by decide) (by decide)
  by_cases c1 : 0 ≤ p3
  · by_cases c2 : p3 ≤ 40
    · obtain ⟨n, hn', rfl⟩ := in_nat (m := 40) (by decide) ⟨c1, c2⟩
      rw [if_pos c1, if_pos c2]
      obtain ⟨g, q1, q2⟩ := x_begin (N := N) hN (sAt (x_sheets x) t) (nI b) (nI n)
      obtain ⟨d', r1, r2, r3, r4, r5, r6⟩ := m_sheet36 (N := N) (m := m) hN (t := t) (b := b) (n := n) ht (by omega) hn'
      rw [q1, bd2_some, lt_eq, r1]
      refine ok_sh hR _ hI hS hV r2 (fun u hu => ?_)
      by_cases c : u = t
      · subst c
        rw [sPut_s]
        refine ⟨if nI b = 0 then 0 else n, by split <;> omega, ?_, ?_, ?_, fun i hi => ?_⟩
        · show (if nI b = 0 then 0 else nI n) = _
          split <;> rfl
        · rw [r3 u, if_pos rfl]; split <;> rfl
        · rw [r4 u, if_pos rfl]
          rcases hb with rfl | hb
          · exact Or.inl ⟨rfl, rfl⟩
          · refine Or.inr ⟨b, hb, rfl, ?_⟩
            rw [if_neg (nI_ne0 (by omega) (by omega))]
        · rw [r5 (40 * u + i) (by omega) (by omega)]
          exact (q2 i hi).symm
      · rw [sPut_n _ _ c]
        refine shr_other (hR.2.2.2.1 u hu) (by rw [r3 u, if_neg c]) (by rw [r4 u, if_neg c]) (fun i hi => r6 _ ?_)
        omega
    · rw [if_pos c1, if_neg c2]
      unfold f_X5_sheet_J36
      rw [if_pos c1, if_neg c2]
      exact bad
  · rw [if_neg c1]
    unfold f_X5_sheet_J36
    rw [if_neg c1]
    exact ok_tell hh _ 6 (by decide) (by decide)
theorem op_sheet (hN : 5000 ≤ N) (h : Sys x m) (p1 p2 p3 : Int32) : Ok (f_X4_sheet N p1 p2 p3 x) (f_X5_sheet N p1 p2 p3 m) := by
  have hh := h
  obtain ⟨a, hI, hS, hV, hR⟩ := h
  have hn := hI.1
  have bad : Ok (bd2 (f_X4_tell N (-1000000001) x) fun r d => some (r, d)) (bd2 (f_X5_finds N (-1000000001) m) fun r d => some (r, d)) := ok_tell hh _ 0 (by decide) (by decide)
  unfold f_X4_sheet f_X5_sheet
  rw [m_sh, some_bind', if10]
  by_cases c1 : 0 ≤ p1 ∧ p1 ≤ 3
  · obtain ⟨t, ht, rfl⟩ := in_nat (m := 3) (by decide) c1
    rw [if_pos c1, x_shIn (show t < 4 by omega), some_bind', sel_some]
    by_cases b0 : p2 = 0
    · subst b0
      rw [if_pos rfl, if_pos rfl]
      exact ok_begin hN hh (t := t) (b := 0) (by omega) (by omega) p3
    rw [if_neg b0, if_neg b0]
    by_cases b8 : p2 = 8
    · subst b8
      rw [if_pos rfl, if_pos rfl]
      exact ok_begin hN hh (t := t) (b := 8) (by omega) (by omega) p3
    rw [if_neg b8, if_neg b8]
    by_cases b16 : p2 = 16
    · subst b16
      rw [if_pos rfl, if_pos rfl]
      exact ok_begin hN hh (t := t) (b := 16) (by omega) (by omega) p3
    rw [if_neg b16, if_neg b16]
    by_cases b64 : p2 = 64
    · subst b64
      rw [if_pos rfl, if_pos rfl]
      exact ok_begin hN hh (t := t) (b := 64) (by omega) (by omega) p3
    rw [if_neg b64, if_neg b64]
    exact bad
  · rw [if_neg c1, x_shOut c1, some_bind', sel_none]
    exact bad
/-- what is written, by the sheet's bits -/
def nar (b : Int32) (v : Int64) : Int64 := if b = (8 : Int32) then (((v.toInt32).toInt8.toInt32)).toInt64 else if b = (16 : Int32) then (((v.toInt32).toInt16.toInt32)).toInt64 else v
theorem m_nar (b : Int32) (v : Int64) : f_X5_narrow N b v = some (nar b v) := by
  unfold f_X5_narrow nar
  split
  · rfl
  · split <;> rfl
theorem xs_put {s : SD} {k i : Nat} (hk : k ≤ 40) (hs : s_size s = nI k) (hi : i < k) (v : Int64) : f_X0_put N (nI i) v s = some (s_numbers s i, s_set_numbers s (vp_updL (s_numbers s) i (nar (s_bits s) v))) := by
  unfold f_X0_put nar
  have cz : 0 ≤ nI i ∧ nI i ≤ nI k - 1 := by rw [sizeP (by omega)]; exact ⟨nI_pos' (by omega), nI_lt hi (by omega)⟩
  rw [hs, x_in, some_bind', if10, if_pos cz, rdL_nI (by omega) (by decide), some_bind', ck_nI (by omega) (by decide), some_bind', some_bind', some_bind', lt_eq, lt_eq, lt_eq, nI_clamp (by omega)]
  by_cases c8 : s_bits s = 8
  · rw [if_pos c8, if_pos c8]
  · rw [if_neg c8, if_neg c8]
    by_cases c16 : s_bits s = 16
    · rw [if_pos c16, if_pos c16]
    · rw [if_neg c16, if_neg c16]
/-- one number of a sheet is written on both sides -/
theorem shr_put {f : Nat → SD} {d : MD} {t i : Nat} (ht : t < 4) (hi : i < 40) (h : ∀ u, u < 4 → SHR (f u) d u) (v : Int64) : ∀ u, u < 4 → SHR (sPut f t (s_set_numbers (f t) (vp_updL (s_numbers (f t)) i v)) u) (m_set_numbers d (vp_updL (m_numbers d) (40 * t + i) v)) u := by
  intro u hu
  by_cases c : u = t
  · subst c
    rw [sPut_s]
    obtain ⟨k, k1, k2, k3, k4, k5⟩ := h u hu
    refine ⟨k, k1, k2, k3, k4, fun j hj => ?_⟩
    show vp_updL (m_numbers d) (40 * u + i) v (40 * u + j) = vp_updL (s_numbers (f u)) i v j
    by_cases cj : j = i
    · rw [cj, pk_uLs, pk_uLs]
    · rw [pk_uLn cj, pk_uLn (by omega)]; exact k5 j hj
  · rw [sPut_n _ _ c]
    refine shr_other (h u hu) rfl rfl (fun j hj => ?_)
    show vp_updL (m_numbers d) (40 * t + i) v (40 * u + j) = _
    exact pk_uLn (by omega)
theorem x_miss {s : SD} {d : MD} {t : Nat} (h : SHR s d t) : (f_X0_isMissing N s = some 1 ∧ m_bitsOf d t = -1) ∨ (∃ b, (b = 8 ∨ b = 16 ∨ b = 64) ∧ f_X0_isMissing N s = some 0 ∧ s_bits s = nI b ∧ m_bitsOf d t = nI b) := by
  obtain ⟨k, k1, k2, k3, k4, k5⟩ := h
  unfold f_X0_isMissing
  rcases k4 with ⟨q1, q2⟩ | ⟨b, q1, q2, q3⟩
  · exact Or.inl ⟨by rw [q1, if_pos rfl], q2⟩
  · exact Or.inr ⟨b, q1, by rw [q2, if_neg (nI_ne0 (by omega) (by omega))], q2, q3⟩
theorem op_write (hN : 5000 ≤ N) (h : Sys x m) (p1 p2 : Int32) (p3 : Int64) : Ok (f_X4_write N p1 p2 p3 x) (f_X5_write N p1 p2 p3 m) := by
  have hh := h
  obtain ⟨a, hI, hS, hV, hR⟩ := h
  have hn := hI.1
  have bad : Ok (bd2 (f_X4_tell N (-1000000001) x) fun r d => some (r.toInt64, d)) (bd2 (f_X5_finds N (-1000000001) m) fun r d => some (r.toInt64, d)) := ok_tellL hh _ 0 (by decide) (by decide)
  unfold f_X4_write f_X5_write
  rw [m_sh, some_bind', if10]
  by_cases c1 : 0 ≤ p1 ∧ p1 ≤ 3
  · obtain ⟨t, ht, rfl⟩ := in_nat (m := 3) (by decide) c1
    rw [if_pos c1, x_shIn (show t < 4 by omega), some_bind', sel_some, rd_nI (by omega) (by decide), some_bind']
    have hs := hR.2.2.2.1 t (by omega)
    have hs' : SHR (sAt (x_sheets x) t) m t := hs
    rcases x_miss (N := N) hs' with ⟨q1, q2⟩ | ⟨b, qb, q1, q2, q3⟩
    · rw [q1, some_bind', if_neg (by decide), q2, if_neg (by decide)]
      exact ok_tellL hh _ 5 (by decide) (by decide)
    · obtain ⟨k, k1, k2, k3, -⟩ := hs'
      rw [q1, some_bind', if_pos rfl, q3, if_pos (nI_pos' (by omega)), rd_nI (by omega) (by decide), some_bind', k2, k3, x_in, some_bind', if10, m_in N p2 0 (nI k - 1) (by decide) rfl, some_bind', if10]
      by_cases c2 : 0 ≤ p2 ∧ p2 ≤ nI k - 1
      · rw [if_pos c2, if_pos c2]
        rw [sizeP (by omega)] at c2
        obtain ⟨i, hi, rfl⟩ := isP_nat' (by omega) c2
        have ei : ((40 : Int32) * nI t) + nI i = nI (40 * t + i) := by rw [lit_nI 40, nI_muln, nI_addn]
        rw [xs_put k1 k2 hi, bd2_some, lt_eq, ei, rdL_nI (by omega) (by decide), some_bind', some_bind', m_nar, some_bind', ck_nI (by omega) (by decide), some_bind', lt_eq, nI_clamp (by omega), q2]
        obtain ⟨-, -, -, -, -, k5⟩ := hs
        rw [k5 i (by omega)]
        exact ok_sh hR _ hI hS hV (KN.num _ _) (shr_put (f := x_sheets x) (by omega) (by omega) hR.2.2.2.1 _)
      · rw [if_neg c2, if_neg c2]
        exact bad
  · rw [if_neg c1, x_shOut c1, some_bind', sel_none]
    exact bad
end SH
