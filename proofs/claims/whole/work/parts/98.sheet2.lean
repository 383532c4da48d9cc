/-! ===== OPERATIONS: sheets copied, laid, booked, read ===== -/
section SH2
variable {N : Nat} {x : XD} {m : MD} {a : AS}
theorem m_copy163 {A B n i : Nat} {K : Int32 → Int32 → Int32 → Int32 → MD → Option (Int32 × MD)} {k8 : Int32} (hA : A + i < 160) (hB : B + i < 160) (d : MD) : f_X5_copy_J163 N K (nI n) (nI A) (nI B) k8 (nI i) d = K (nI n) (nI A) (nI B) (k8 + 1) (m_set_numbers d (vp_updL (m_numbers d) (B + i) (m_numbers d (A + i)))) := by
  unfold f_X5_copy_J163
  rw [nI_addn, nI_addn, rdL_nI hA (by decide), some_bind', ck_nI hB (by decide), some_bind', lt_eq, lt_eq, nI_clamp (by omega)]
theorem m_copy_f {A B n : Nat} (hAB : B ≤ A) (hA : A + n ≤ 160) (hB : B + n ≤ 160) (old : Nat → Int64) : ∀ (t k f : Nat) (d : MD), k + t = n → t < f → (∀ j, m_numbers d j = va_cpy old old A B k j) →
    ∃ d', f_X5_copy_L137 N f (nI n) (nI A) (nI B) (nI k) d = some (nI n, d') ∧ KN d d' ∧ m_sizes d' = m_sizes d ∧ m_bitsOf d' = m_bitsOf d ∧ ∀ j, m_numbers d' j = va_cpy old old A B n j := by
  intro t
  induction t with
  | zero =>
    intro k f d e1 e2 hd
    obtain ⟨f', rfl⟩ : ∃ f', f = f' + 1 := ⟨f - 1, by omega⟩
    obtain rfl : k = n := by omega
    rw [f_X5_copy_L137, if_pos (nI_le (Nat.le_refl _) (by omega))]
    exact ⟨d, rfl, KN.rf d, rfl, rfl, hd⟩
  | succ t ih =>
    intro k f d e1 e2 hd
    obtain ⟨f', rfl⟩ : ∃ f', f = f' + 1 := ⟨f - 1, by omega⟩
    rw [f_X5_copy_L137, if_neg (nI_ge (show k < n by omega) (by omega)), if_pos (nI_le hAB (by omega)), m_copy163 (by omega) (by omega), nI_1]
    have z1 := KN.num d (vp_updL (m_numbers d) (B + k) (m_numbers d (A + k)))
    have z2 : m_sizes (m_set_numbers d (vp_updL (m_numbers d) (B + k) (m_numbers d (A + k)))) = m_sizes d := rfl
    have z3 : m_bitsOf (m_set_numbers d (vp_updL (m_numbers d) (B + k) (m_numbers d (A + k)))) = m_bitsOf d := rfl
    have z4 : m_numbers (m_set_numbers d (vp_updL (m_numbers d) (B + k) (m_numbers d (A + k)))) = vp_updL (m_numbers d) (B + k) (m_numbers d (A + k)) := rfl
    generalize m_set_numbers d (vp_updL (m_numbers d) (B + k) (m_numbers d (A + k))) = d1 at z1 z2 z3 z4 ⊢
    obtain ⟨d', q1, q2, q3, q4, q5⟩ := ih (k + 1) f' d1 (by omega) (by omega) (fun j => by
      rw [z4]
      by_cases c : j = B + k
      · rw [c, pk_uLs, hd (A + k), pk_cpy_out (by omega), pk_cpy_in (by omega) (by omega)]
        congr 1; omega
      · rw [pk_uLn c, hd j]
        by_cases cl : B ≤ j ∧ j < B + k
        · rw [pk_cpy_in cl.1 cl.2, pk_cpy_in cl.1 (by omega)]
        · rw [pk_cpy_out (by omega), pk_cpy_out (by omega)])
    exact ⟨d', q1, z1.tr q2, q3.trans z2, q4.trans z3, q5⟩
theorem m_copy_b {A B n : Nat} (hAB : A < B) (hA : A + n ≤ 160) (hB : B + n ≤ 160) (old : Nat → Int64) : ∀ (t k f : Nat) (d : MD), k + t = n → t < f → (∀ j, m_numbers d j = if B + (n - k) ≤ j ∧ j < B + n then old (A + (j - B)) else old j) →
    ∃ d', f_X5_copy_L137 N f (nI n) (nI A) (nI B) (nI k) d = some (nI n, d') ∧ KN d d' ∧ m_sizes d' = m_sizes d ∧ m_bitsOf d' = m_bitsOf d ∧ ∀ j, m_numbers d' j = va_cpy old old A B n j := by
  intro t
  induction t with
  | zero =>
    intro k f d e1 e2 hd
    obtain ⟨f', rfl⟩ : ∃ f', f = f' + 1 := ⟨f - 1, by omega⟩
    obtain rfl : k = n := by omega
    rw [f_X5_copy_L137, if_pos (nI_le (Nat.le_refl _) (by omega))]
    refine ⟨d, rfl, KN.rf d, rfl, rfl, fun j => ?_⟩
    rw [hd j]
    by_cases cl : B ≤ j ∧ j < B + k
    · rw [if_pos ⟨by omega, cl.2⟩, pk_cpy_in cl.1 cl.2]
    · rw [if_neg (by omega), pk_cpy_out (by omega)]
  | succ t ih =>
    intro k f d e1 e2 hd
    obtain ⟨f', rfl⟩ : ∃ f', f = f' + 1 := ⟨f - 1, by omega⟩
    have ei : (nI n - (1 : Int32)) - nI k = nI (n - 1 - k) := by
      rw [show (1 : Int32) = nI 1 from rfl, pk_sub (by omega), pk_sub (by omega)]
    rw [f_X5_copy_L137, if_neg (nI_ge (show k < n by omega) (by omega)), if_neg (nI_ge hAB (by omega)), ei, m_copy163 (by omega) (by omega), nI_1]
    have z1 := KN.num d (vp_updL (m_numbers d) (B + (n - 1 - k)) (m_numbers d (A + (n - 1 - k))))
    have z2 : m_sizes (m_set_numbers d (vp_updL (m_numbers d) (B + (n - 1 - k)) (m_numbers d (A + (n - 1 - k))))) = m_sizes d := rfl
    have z3 : m_bitsOf (m_set_numbers d (vp_updL (m_numbers d) (B + (n - 1 - k)) (m_numbers d (A + (n - 1 - k))))) = m_bitsOf d := rfl
    have z4 : m_numbers (m_set_numbers d (vp_updL (m_numbers d) (B + (n - 1 - k)) (m_numbers d (A + (n - 1 - k))))) = vp_updL (m_numbers d) (B + (n - 1 - k)) (m_numbers d (A + (n - 1 - k))) := rfl
    generalize m_set_numbers d (vp_updL (m_numbers d) (B + (n - 1 - k)) (m_numbers d (A + (n - 1 - k)))) = d1 at z1 z2 z3 z4 ⊢
    obtain ⟨d', q1, q2, q3, q4, q5⟩ := ih (k + 1) f' d1 (by omega) (by omega) (fun j => by
      rw [z4]
      by_cases c : j = B + (n - 1 - k)
      · rw [c, pk_uLs, hd (A + (n - 1 - k)), if_neg (by omega), if_pos (by omega)]
        congr 1; omega
      · rw [pk_uLn c, hd j]
        by_cases cl : B + (n - k) ≤ j ∧ j < B + n
        · rw [if_pos cl, if_pos (by omega)]
        · rw [if_neg cl, if_neg (by omega)])
    exact ⟨d', q1, z1.tr q2, q3.trans z2, q4.trans z3, q5⟩
theorem m_copyN (hN : 5000 ≤ N) {A B n : Nat} (hA : A + n ≤ 160) (hB : B + n ≤ 160) (d : MD) : ∃ d', f_X5_copy_L137 N N (nI n) (nI A) (nI B) 0 d = some (nI n, d') ∧ KN d d' ∧ m_sizes d' = m_sizes d ∧ m_bitsOf d' = m_bitsOf d ∧ ∀ j, m_numbers d' j = va_cpy (m_numbers d) (m_numbers d) A B n j := by
  by_cases c : B ≤ A
  · exact m_copy_f c hA hB (m_numbers d) n 0 N d (by omega) (by omega) (fun j => by rw [pk_cpy_out (by omega)])
  · exact m_copy_b (by omega) hA hB (m_numbers d) n 0 N d (by omega) (by omega) (fun j => by rw [if_neg (by omega)])
theorem x_range {s : SD} {k : Nat} (hs : s_size s = nI k) (p q : Int32) : f_X0_hasRange N p q s = some (if ¬ p < 0 ∧ ¬ q < 0 ∧ ¬ nI k - p < q then 1 else 0) := by
  unfold f_X0_hasRange
  rw [hs]
  by_cases c1 : p < 0
  · rw [if_pos c1, if_neg (fun z => z.1 c1)]
  · rw [if_neg c1]
    by_cases c2 : q < 0
    · rw [if_pos c2, if_neg (fun z => z.2.1 c2)]
    · rw [if_neg c2]
      by_cases c3 : nI k - p < q
      · rw [if_pos c3, if_neg (fun z => z.2.2 c3)]
      · rw [if_neg c3, if_pos ⟨c1, c2, c3⟩]
theorem range_nat {k : Nat} (hk : k ≤ 40) {p q : Int32} (h : ¬ p < 0 ∧ ¬ q < 0 ∧ ¬ nI k - p < q) : ∃ i n, p = nI i ∧ q = nI n ∧ i + n ≤ k := by
  obtain ⟨h1, h2, h3⟩ := h
  obtain ⟨i, hi, rfl⟩ := nI_of h1
  obtain ⟨n, hn, rfl⟩ := nI_of h2
  refine ⟨i, n, rfl, rfl, ?_⟩
  rw [fa_lt', sub_toInt (by rw [nI_toInt (by omega)]; omega) (by rw [nI_toInt hi]; omega), nI_toInt (by omega), nI_toInt hi, nI_toInt hn] at h3
  omega
theorem op_copy (hN : 5000 ≤ N) (h : Sys x m) (p1 p2 p3 p4 p5 : Int32) : Ok (f_X4_copy N p1 p2 p3 p4 p5 x) (f_X5_copy N p1 p2 p3 p4 p5 m) := by
  have hh := h
  obtain ⟨a, hI, hS, hV, hR⟩ := h
  have hn := hI.1
  have bad : Ok (bd2 (f_X4_tell N (-1000000001) x) fun r d => some (r, d)) (bd2 (f_X5_finds N (-1000000001) m) fun r d => some (r, d)) := ok_tell hh _ 0 (by decide) (by decide)
  have miss : Ok (bd2 (f_X4_tell N (-1000000006) x) fun r d => some (r, d)) (bd2 (f_X5_finds N (-1000000006) m) fun r d => some (r, d)) := ok_tell hh _ 5 (by decide) (by decide)
  unfold f_X4_copy f_X5_copy
  rw [m_sh, some_bind', if10, m_sh, some_bind', if10]
  by_cases c1 : 0 ≤ p1 ∧ p1 ≤ 3
  · obtain ⟨t, ht, rfl⟩ := in_nat (m := 3) (by decide) c1
    rw [if_pos c1, x_shIn (show t < 4 by omega), some_bind', sel_some]
    by_cases c2 : 0 ≤ p3 ∧ p3 ≤ 3
    · obtain ⟨u, hu, rfl⟩ := in_nat (m := 3) (by decide) c2
      have rt : ∀ f : Nat → Int32, rd f 4 (nI t) = some (f t) := fun f => rd_nI (by omega) (by decide)
      have ru : ∀ f : Nat → Int32, rd f 4 (nI u) = some (f u) := fun f => rd_nI (by omega) (by decide)
      rw [if_pos c2, x_shIn (show u < 4 by omega), some_bind', sel_some]
      simp only [rt, ru, some_bind']
      have hs : SHR (sAt (x_sheets x) t) m t := hR.2.2.2.1 t (by omega)
      have hs2 : SHR (sAt (x_sheets x) u) m u := hR.2.2.2.1 u (by omega)
      rcases x_miss (N := N) hs with ⟨q1, q2⟩ | ⟨b, qb, q1, q2, q3⟩
      · rw [q1, some_bind', if_neg (by decide), q2, if_pos (by decide)]
        exact miss
      rw [q1, some_bind', if_pos rfl, q3, if_neg (nI_pos (by omega))]
      rcases x_miss (N := N) hs2 with ⟨r1, r2⟩ | ⟨b2, rb2, r1, r2, r3⟩
      · rw [r1, some_bind', if_neg (by decide), r2, if_neg (by decide)]
        exact miss
      rw [r1, some_bind', if_pos rfl, r3, if_pos (nI_pos' (by omega)), q2, r2]
      by_cases c3 : nI b = nI b2
      · rw [if_pos c3, if_pos c3]
        obtain ⟨k, k1, k2, k3, -, k5⟩ := hs
        obtain ⟨l, l1, l2, l3, -, l5⟩ := hs2
        rw [x_range k2, x_range l2, some_bind', if10, some_bind', if10, k3, l3]
        by_cases R1 : ¬ p2 < 0 ∧ ¬ p5 < 0 ∧ ¬ nI k - p2 < p5
        · rw [if_pos R1]
          by_cases R2 : ¬ p4 < 0 ∧ ¬ p5 < 0 ∧ ¬ nI l - p4 < p5
          · have le5 : p5 ≤ nI l - p4 := by
              have z := R2.2.2
              rw [fa_lt'] at z
              rw [fa_le']
              omega
            rw [if_pos R2, if_neg R1.1, if_neg R2.1, if_neg R1.2.1, if_neg R1.2.2, if_pos le5]
            obtain ⟨i, n, rfl, rfl, hin⟩ := range_nat k1 R1
            obtain ⟨j, n', rfl, en, hjn⟩ := range_nat l1 R2
            obtain rfl : n = n' := (nI_eq (by omega) (by omega)).mp en
            have eA : ((40 : Int32) * nI t) + nI i = nI (40 * t + i) := by rw [lit_nI 40, nI_muln, nI_addn]
            have eB : ((40 : Int32) * nI u) + nI j = nI (40 * u + j) := by rw [lit_nI 40, nI_muln, nI_addn]
            obtain ⟨d', w1, w2, w3, w4, w5⟩ := m_copyN (N := N) hN (A := 40 * t + i) (B := 40 * u + j) (n := n) (by omega) (by omega) m
            have ec : ckr (nI i) (nI j) (nI n) 40 40 = some () := by
              unfold ckr
              rw [nI_clamp (show i < 2 ^ 31 by omega), nI_clamp (show j < 2 ^ 31 by omega), nI_clamp (show n < 2 ^ 31 by omega), if_pos ⟨nI_pos (by omega), nI_pos (by omega), nI_pos (by omega), by omega, by omega⟩]
            rw [ec, some_bind', lt_eq, lt_eq, lt_eq, eA, eB, w1, nI_clamp (by omega), nI_clamp (by omega), nI_clamp (by omega)]
            refine ok_sh hR _ hI hS hV w2 (fun w hw => ?_)
            by_cases c : w = u
            · subst c
              rw [sPut_s]
              obtain ⟨l', l1', l2', l3', l4', l5'⟩ := hR.2.2.2.1 w hw
              refine ⟨l', l1', l2', by rw [w3]; exact l3', ?_, fun g hg => ?_⟩
              · rw [w4]; exact l4'
              · show _ = va_cpy (s_numbers (sAt (x_sheets x) t)) (s_numbers (sAt (x_sheets x) w)) i j n g
                rw [w5]
                by_cases cl : j ≤ g ∧ g < j + n
                · rw [pk_cpy_in (show 40 * w + j ≤ 40 * w + g by omega) (by omega), pk_cpy_in cl.1 cl.2, ← k5 (i + (g - j)) (by omega)]
                  congr 1; omega
                · rw [pk_cpy_out (by omega), pk_cpy_out (by omega)]
                  exact l5 g hg
            · rw [sPut_n _ _ c]
              refine shr_other (hR.2.2.2.1 w hw) (by rw [w3]) (by rw [w4]) (fun g hg => ?_)
              rw [w5, pk_cpy_out (by omega)]
          · rw [if_neg R2, if_neg R1.1]
            by_cases z4 : p4 < 0
            · rw [if_pos z4]; exact bad
            · have z5 : nI l - p4 < p5 := Classical.byContradiction (fun w => R2 ⟨z4, R1.2.1, w⟩)
              rw [if_neg z4, if_neg R1.2.1, if_neg R1.2.2, if_neg (fun w => by rw [fa_le'] at w; rw [fa_lt'] at z5; omega)]
              exact bad
        · rw [if_neg R1]
          by_cases z2 : p2 < 0
          · rw [if_pos z2]; exact bad
          · rw [if_neg z2]
            by_cases z4 : p4 < 0
            · rw [if_pos z4]; exact bad
            · rw [if_neg z4]
              by_cases z5 : p5 < 0
              · rw [if_pos z5]; exact bad
              · have z6 : nI k - p2 < p5 := Classical.byContradiction (fun w => R1 ⟨z2, z5, w⟩)
                rw [if_neg z5, if_pos z6]
                exact bad
      · rw [if_neg c3, if_neg c3]
        exact ok_tell hh _ 2 (by decide) (by decide)
    · rw [if_neg c2, x_shOut c2, some_bind', sel_none]
      exact bad
  · rw [if_neg c1, x_shOut c1, some_bind', sel_none]
    by_cases c2 : 0 ≤ p3 ∧ p3 ≤ 3
    · obtain ⟨u, hu, rfl⟩ := in_nat (m := 3) (by decide) c2
      rw [x_shIn (show u < 4 by omega), some_bind', sel_some]
      exact bad
    · rw [x_shOut c2, some_bind', sel_none]
      exact bad
/-! what a sheet tells -/
def tl (k : Nat) (f : Nat → Int64) (q : Nat) : Bool := decide (q < k) && decide (0 ≤ (f q).toInt ∧ (f q).toInt ≤ 3)
def tw (f : Nat → Int64) (q : Nat) : Nat := (f q).toBitVec.toNat % 4
theorem tw_le (f : Nat → Int64) (q : Nat) : tw f q ≤ 3 := by unfold tw; omega
theorem and3 (v : Int64) : (v &&& (3 : Int64)).toInt32 = nI (v.toBitVec.toNat % 4) := by
  have e : v &&& (3 : Int64) = lN (v.toBitVec.toNat % 4) := by
    apply Int64.toBitVec_inj.mp
    apply BitVec.eq_of_toNat_eq
    rw [Int64.toBitVec_and, BitVec.toNat_and]
    show v.toBitVec.toNat &&& (2 ^ 2 - 1) = (BitVec.ofNat 64 (v.toBitVec.toNat % 4)).toNat
    rw [Nat.and_two_pow_sub_one_eq_mod, BitVec.toNat_ofNat]
    omega
  rw [e, lN_i]
theorem told_v {v : Int64} (h : 0 ≤ v.toInt ∧ v.toInt ≤ 3) : v = lN (v.toBitVec.toNat % 4) := by
  have h0 : ¬ v < 0 := fun z => by
    rw [Int64.lt_iff_toInt_lt] at z
    have e0 : (0 : Int64).toInt = 0 := by decide
    omega
  obtain ⟨k, hk, rfl⟩ := pk_lOf h0
  rw [pk_lT hk] at h
  have : k = 0 ∨ k = 1 ∨ k = 2 ∨ k = 3 := by omega
  rcases this with rfl | rfl | rfl | rfl <;> decide
theorem m_in64 (v : Int64) : f_X5_isIn N v (0 : Int64) (3 : Int64) = some (if 0 ≤ v.toInt ∧ v.toInt ≤ 3 then 1 else 0) := by
  unfold f_X5_isIn
  have e0 : (0 : Int64).toInt = 0 := by decide
  have e3 : (3 : Int64).toInt = 3 := by decide
  simp only [lg_cmp_lt, lg_cmp_gt, Int64.lt_iff_toInt_lt, e0, e3]
  by_cases c1 : v.toInt < 0
  · rw [if_pos c1, if_neg (by omega)]
  · rw [if_neg c1]
    by_cases c2 : 3 < v.toInt
    · rw [if_pos c2, if_neg (by omega)]
    · rw [if_neg c2, if_pos (by omega)]
theorem sI_stop {p : Nat → Bool} {k : Nat} (h : ∀ q, k ≤ q → p q = false) : ∀ t, sI p (k + t) = sI p k
  | 0 => rfl
  | t + 1 => by
    show sI p ((k + t) + 1) = _
    rw [sI, h (k + t) (by omega), if_neg (by decide)]
    exact sI_stop h t
theorem tl_hi {k : Nat} {f : Nat → Int64} {q : Nat} (h : k ≤ q) : tl k f q = false := by
  unfold tl
  rw [decide_eq_false (by omega), Bool.false_and]
theorem tl_iff {k : Nat} {f : Nat → Int64} {q : Nat} (h : q < k) : tl k f q = decide (0 ≤ (f q).toInt ∧ (f q).toInt ≤ 3) := by
  unfold tl
  rw [decide_eq_true h, Bool.true_and]
theorem x_marks_L {s : SD} {k : Nat} (hk : k ≤ 40) (hs : s_size s = nI k) : ∀ (t q n : Nat), q + t = 9 → t < n → f_X0_marksTold_L4 N s n (sI (tl k (s_numbers s)) q) (nI q) = some (sI (tl k (s_numbers s)) 9) := by
  have e0 : (0 : Int64).toInt = 0 := by decide
  have e4 : (4 : Int64).toInt = 4 := by decide
  intro t
  induction t with
  | zero =>
    intro q n h1 h2
    obtain ⟨n', rfl⟩ : ∃ n', n = n' + 1 := ⟨n - 1, by omega⟩
    obtain rfl : q = 9 := by omega
    rw [f_X0_marksTold_L4, if_pos (show (9 : Int32) ≤ nI 9 from nI_le (Nat.le_refl 9) (by decide))]
  | succ t ih =>
    intro q n h1 h2
    obtain ⟨n', rfl⟩ : ∃ n', n = n' + 1 := ⟨n - 1, by omega⟩
    rw [f_X0_marksTold_L4, if_neg (show ¬ (9 : Int32) ≤ nI q from nI_ge (show q < 9 by omega) (by decide)), hs]
    by_cases c : k ≤ q
    · rw [if_pos (nI_le c (by omega)), ← sI_stop (p := tl k (s_numbers s)) (k := q) (fun j hj => tl_hi (by omega)) (t + 1), h1]
    · rw [if_neg (nI_ge (by omega) (by omega)), rdL_nI (by omega) (by decide), some_bind', some_bind']
      have ih' := ih (q + 1) n' (by omega) (by omega)
      rw [sI, tl_iff (by omega)] at ih'
      simp only [lg_cmp_lt, lg_cmp_ge, Int64.lt_iff_toInt_lt, Int64.le_iff_toInt_le, e0, e4]
      by_cases c1 : (s_numbers s q).toInt < 0
      · rw [if_pos c1, lt_eq, nI_1]
        rw [decide_eq_false (by omega), if_neg (by decide)] at ih'
        exact ih'
      · rw [if_neg c1]
        by_cases c2 : 4 ≤ (s_numbers s q).toInt
        · rw [if_pos c2, lt_eq, nI_1]
          rw [decide_eq_false (by omega), if_neg (by decide)] at ih'
          exact ih'
        · rw [if_neg c2, lt_eq, lt_eq, nI_1]
          rw [decide_eq_true (by omega), if_pos rfl] at ih'
          exact ih'
theorem x_marks (hN : 5000 ≤ N) {s : SD} {k : Nat} (hk : k ≤ 40) (hs : s_size s = nI k) : f_X0_marksTold N s = some (sI (tl k (s_numbers s)) 9) := by
  unfold f_X0_marksTold
  exact x_marks_L hk hs 9 0 N (by omega) (by omega)
theorem LK_cong {L : Int32} {w w' : Nat → Nat} (h : ∀ q, q < 9 → w q = w' q) (hL : LK L w) : LK L w' := ⟨fun q hq => by rw [← h q hq]; exact hL.1 q hq, hL.2⟩
def lwd (k : Nat) (f : Nat → Int64) (e q : Nat) : Nat := if q < e ∧ q < k then tw f q else 0
theorem x_look_L {s : SD} {k : Nat} (hk : k ≤ 40) (hs : s_size s = nI k) : ∀ (t q n : Nat) (L : Int32), q + t = 9 → t < n → LK L (lwd k (s_numbers s) q) → ∃ R, f_X0_lookTold_L4 N s n L (nI q) = some R ∧ LK R (lwd k (s_numbers s) 9) := by
  intro t
  induction t with
  | zero =>
    intro q n L h1 h2 hL
    obtain ⟨n', rfl⟩ : ∃ n', n = n' + 1 := ⟨n - 1, by omega⟩
    obtain rfl : q = 9 := by omega
    rw [f_X0_lookTold_L4, if_pos (show (9 : Int32) ≤ nI 9 from nI_le (Nat.le_refl 9) (by decide))]
    exact ⟨L, rfl, hL⟩
  | succ t ih =>
    intro q n L h1 h2 hL
    obtain ⟨n', rfl⟩ : ∃ n', n = n' + 1 := ⟨n - 1, by omega⟩
    rw [f_X0_lookTold_L4, if_neg (show ¬ (9 : Int32) ≤ nI q from nI_ge (show q < 9 by omega) (by decide)), hs]
    by_cases c : k ≤ q
    · rw [if_pos (nI_le c (by omega))]
      refine ⟨L, rfl, LK_cong (fun j hj => ?_) hL⟩
      unfold lwd
      by_cases cj : j < q ∧ j < k
      · rw [if_pos cj, if_pos ⟨hj, cj.2⟩]
      · rw [if_neg cj, if_neg (by omega)]
    · obtain ⟨R, r1, r2⟩ := x_withWay (N := N) hL (m := q) (x := tw (s_numbers s) q) (by omega) (tw_le _ _)
      have e3 : ((s_numbers s q) &&& (3 : Int64)).toInt32 = nI (tw (s_numbers s) q) := and3 _
      rw [if_neg (nI_ge (by omega) (by omega)), rdL_nI (by omega) (by decide), some_bind', e3, r1, some_bind', lt_eq, nI_1]
      refine ih (q + 1) n' R (by omega) (by omega) (LK_cong (fun j hj => ?_) r2)
      unfold lwd
      by_cases cj : j = q
      · rw [cj, va_up_s, if_pos (by omega)]
      · rw [va_up_n _ _ cj]
        by_cases cl : j < q ∧ j < k
        · rw [if_pos cl, if_pos (by omega)]
        · rw [if_neg cl, if_neg (by omega)]
theorem x_look (hN : 5000 ≤ N) {s : SD} {k : Nat} (hk : k ≤ 40) (hs : s_size s = nI k) : ∃ R, f_X0_lookTold N s = some R ∧ LK R (lwd k (s_numbers s) 9) := by
  unfold f_X0_lookTold
  exact x_look_L hk hs 9 0 N 0 (by omega) (by omega) (LK_cong (fun j _ => by unfold lwd; rw [if_neg (by omega)]) LK_0)
def lyk (a : AS) (one k : Nat) (f : Nat → Int64) (e q : Nat) : Nat := if q < e ∧ tl k f q = true then tw f q else a_wy a one q
theorem lyk_le (hI : Inv a) {one : Nat} (h1 : one < a_n a) (k : Nat) (f : Nat → Int64) (e : Nat) : ∀ q, q < 9 → lyk a one k f e q ≤ 3 := fun q hq => by
  unfold lyk
  split
  · exact tw_le f q
  · exact (hI.2.2.2.2 one h1).2.2.2.2.2.2 q hq
theorem m_lays_L (hI : Inv a) {one t k : Nat} {f : Nat → Int64} (h1 : one < a_n a) (ht : t < 4) (hk : k ≤ 40) : ∀ (u q n : Nat) (d : MD), q + u = 9 → u < n → m_sizes d t = nI k → (∀ i, i < 40 → m_numbers d (40 * t + i) = f i) → SR (wset a one (lyk a one k f q)) (m_s d) →
    ∃ d', f_X5_lays_L47 N n (nI t) (nI one) (nI (sm (fun j => if tl k f j then 1 else 0) q)) (nI q) d = some (nI (sm (fun j => if tl k f j then 1 else 0) 9), d') ∧ SR (wset a one (lyk a one k f 9)) (m_s d') ∧ KR d d' := by
  have hn := hI.1
  intro u
  induction u with
  | zero =>
    intro q n d e1 e2 hz hf hS
    obtain ⟨n', rfl⟩ : ∃ n', n = n' + 1 := ⟨n - 1, by omega⟩
    obtain rfl : q = 9 := by omega
    rw [f_X5_lays_L47, rd_nI ht (by decide), some_bind', hz]
    by_cases c : k ≤ 9
    · rw [if_pos (nI_le c (by omega))]
      exact ⟨d, rfl, hS, KR.rf d⟩
    · rw [if_neg (nI_ge (by omega) (by omega)), if_pos (show (9 : Int32) ≤ nI 9 from nI_le (Nat.le_refl 9) (by decide))]
      exact ⟨d, rfl, hS, KR.rf d⟩
  | succ u ih =>
    intro q n d e1 e2 hz hf hS
    obtain ⟨n', rfl⟩ : ∃ n', n = n' + 1 := ⟨n - 1, by omega⟩
    rw [f_X5_lays_L47, rd_nI ht (by decide), some_bind', hz]
    by_cases c : k ≤ q
    · rw [if_pos (nI_le c (by omega))]
      have e3 : sm (fun j => if tl k f j then 1 else 0) 9 = sm (fun j => if tl k f j then 1 else 0) q := sm_bits (p := tl k f) (g := fun _ => 1) (show q ≤ 9 by omega) (fun i hi => tl_hi (by omega))
      have e4 : lyk a one k f q = lyk a one k f 9 := by
        funext j
        unfold lyk
        by_cases cj : tl k f j = true
        · have : j < k := Classical.byContradiction (fun w => by rw [tl_hi (by omega)] at cj; cases cj)
          rw [if_pos ⟨by omega, cj⟩, if_pos ⟨by omega, cj⟩]
        · rw [if_neg (fun w => cj w.2), if_neg (fun w => cj w.2)]
      rw [e3]
      exact ⟨d, rfl, by rw [← e4]; exact hS, KR.rf d⟩
    · have ei : ((40 : Int32) * nI t) + nI q = nI (40 * t + q) := by rw [lit_nI 40, nI_muln, nI_addn]
      rw [if_neg (nI_ge (by omega) (by omega)), if_neg (show ¬ (9 : Int32) ≤ nI q from nI_ge (show q < 9 by omega) (by decide)), ei, rdL_nI (by omega) (by decide), some_bind', hf q (by omega), m_in64, some_bind', if10]
      by_cases c1 : 0 ≤ (f q).toInt ∧ (f q).toInt ≤ 3
      · have ct : tl k f q = true := by rw [tl_iff (by omega)]; exact decide_eq_true c1
        have ev : (f q).toInt32 = nI (tw f q) := by
          have z := told_v c1
          rw [z, lN_i]
          rfl
        obtain ⟨d1, p1, p2, p3, -⟩ := m_putw N (wset_inv hI (lyk_le hI h1 k f q)) hS (i := one) (q := q) h1 (by omega) (tw f q)
        have ek : va_up (lyk a one k f q) q (tw f q) = lyk a one k f (q + 1) := by
          funext j
          by_cases cj : j = q
          · rw [cj, va_up_s]; unfold lyk; rw [if_pos ⟨by omega, ct⟩]
          · rw [va_up_n _ _ cj]; unfold lyk
            by_cases cl : j < q ∧ tl k f j = true
            · rw [if_pos cl, if_pos ⟨by omega, cl.2⟩]
            · rw [if_neg cl, if_neg (fun w => cl ⟨by omega, w.2⟩)]
        rw [setw_wset, ek] at p2
        rw [if_pos c1, ev, p1, some_bind', lt_eq, lt_eq, nI_1, nI_1]
        have ih' := ih (q + 1) n' d1 (by omega) (by omega) (by rw [p3.2.2.2.2.2.2.1]; exact hz) (fun i hi => by rw [p3.2.2.2.2.2.2.2.1]; exact hf i hi) p2
        rw [sm, ct, if_pos rfl] at ih'
        obtain ⟨d', w1, w2, w3⟩ := ih'
        exact ⟨d', w1, w2, p3.tr w3⟩
      · have ct : tl k f q = false := by rw [tl_iff (by omega)]; exact decide_eq_false c1
        have ek : lyk a one k f q = lyk a one k f (q + 1) := by
          funext j
          unfold lyk
          by_cases cl : j < q ∧ tl k f j = true
          · rw [if_pos cl, if_pos ⟨by omega, cl.2⟩]
          · rw [if_neg cl, if_neg (fun w => by
              by_cases cj : j = q
              · rw [cj, ct] at w; cases w.2
              · exact cl ⟨by omega, w.2⟩)]
        rw [if_neg c1, lt_eq, nI_1]
        have ih' := ih (q + 1) n' d (by omega) (by omega) hz hf (by rw [← ek]; exact hS)
        rw [sm, ct, if_neg (by decide), Nat.add_zero] at ih'
        exact ih'
theorem m_wants_out {p : Int32} (h : ¬ (0 ≤ p ∧ p ≤ 3)) : f_X5_wants N p m = some (-1000000001) := by
  unfold f_X5_wants
  rw [m_sh, some_bind', if10, if_neg h]
theorem m_wants_miss {t : Nat} (ht : t < 4) (h : m_bitsOf m t = -1) : f_X5_wants N (nI t) m = some (-1000000006) := by
  unfold f_X5_wants
  rw [m_sh, some_bind', if10, if_pos ⟨nI_pos' (by omega), show nI t ≤ (3 : Int32) from nI_le (show t ≤ 3 by omega) (by decide)⟩, rd_nI ht (by decide), some_bind', h, if_neg (by decide)]
theorem m_wants_in {t b : Nat} (ht : t < 4) (hb : b ≤ 64) (h : m_bitsOf m t = nI b) : f_X5_wants N (nI t) m = some 0 := by
  unfold f_X5_wants
  rw [m_sh, some_bind', if10, if_pos ⟨nI_pos' (by omega), show nI t ≤ (3 : Int32) from nI_le (show t ≤ 3 by omega) (by decide)⟩, rd_nI ht (by decide), some_bind', h, if_pos (nI_pos' (by omega))]
theorem op_lays (hN : 5000 ≤ N) (h : Sys x m) (p1 p2 : Int32) : Ok (f_X4_lays N p1 p2 x) (f_X5_lays N p1 p2 m) := by
  have hh := h
  obtain ⟨a, hI, hS, hV, hR⟩ := h
  have hn := hI.1
  have bad : Ok (bd2 (f_X4_tell N (-1000000001) x) fun r d => some (r, d)) (bd2 (f_X5_finds N (-1000000001) m) fun r d => some (r, d)) := ok_tell hh _ 0 (by decide) (by decide)
  have miss : Ok (bd2 (f_X4_tell N (-1000000006) x) fun r d => some (r, d)) (bd2 (f_X5_finds N (-1000000006) m) fun r d => some (r, d)) := ok_tell hh _ 5 (by decide) (by decide)
  unfold f_X4_lays f_X5_lays f_X5_lays_J30
  by_cases c1 : 0 ≤ p1 ∧ p1 ≤ 3
  · obtain ⟨t, ht, rfl⟩ := in_nat (m := 3) (by decide) c1
    rw [x_shIn (show t < 4 by omega), some_bind', sel_some]
    have hs : SHR (sAt (x_sheets x) t) m t := hR.2.2.2.1 t (by omega)
    rcases x_miss (N := N) hs with ⟨q1, q2⟩ | ⟨b, qb, q1, q2, q3⟩
    · rw [q1, some_bind', if_neg (by decide), m_wants_miss (by omega) q2, some_bind', if_neg (by decide), some_bind', if_neg (by decide)]
      exact miss
    · obtain ⟨k, k1, k2, k3, -, k5⟩ := hs
      rw [q1, some_bind', if_pos rfl, m_wants_in (by omega) (by omega) q3, some_bind', if_pos rfl, x_one hI hV, some_bind', if10, m_one hI hS, some_bind', if10]
      by_cases c2 : isP (a_n a) p2
      · rw [if_pos c2, if_pos c2, if_pos rfl]
        obtain ⟨i, hi, rfl⟩ := isP_nat hn c2
        obtain ⟨L, r1, r2⟩ := x_look (N := N) hN k1 k2
        have q := (hV.2.2.2.2.2.2 i hi).2.2.2.2.2
        have sb : ∀ j, j < 32 → bt (sI (tl k (s_numbers (sAt (x_sheets x) t))) 9) j = (decide (j < 9) && tl k (s_numbers (sAt (x_sheets x) t)) j) := fun j hj => sI_bt _ 9 (by omega) j hj
        obtain ⟨R, w1, w2⟩ := x_copied (N := N) (M := L) (s := sI (tl k (s_numbers (sAt (x_sheets x) t))) 9) (S := tl k (s_numbers (sAt (x_sheets x) t))) (v := tw (s_numbers (sAt (x_sheets x) t))) q (fun j hj hj2 => by
          have jk : j < k := Classical.byContradiction (fun w => by rw [tl_hi (by omega)] at hj2; cases hj2)
          have z := r2.1 j hj
          unfold lwd at z
          rw [if_pos ⟨hj, jk⟩] at z
          exact z) sb
        have hb12 : ∀ j, 12 ≤ j → bt (sI (tl k (s_numbers (sAt (x_sheets x) t))) 9) j = false := fun j hj => by
          rcases Nat.lt_or_ge j 32 with c | c
          · rw [sb j c, decide_eq_false (by omega), Bool.false_and]
          · exact b_big c
        have ec : sm (fun j => if bt (sI (tl k (s_numbers (sAt (x_sheets x) t))) 9) j then 1 else 0) 12 = sm (fun j => if tl k (s_numbers (sAt (x_sheets x) t)) j then 1 else 0) 9 := by
          rw [show (12 : Nat) = 9 + 3 from rfl, sm_split _ 9 3, sm_zero (n := 3) (fun j hj => by rw [sb (9 + j) (by omega), decide_eq_false (by omega), Bool.false_and]; rfl), Nat.add_zero]
          refine sm_cong (fun j hj => ?_)
          rw [sb j (by omega), decide_eq_true hj, Bool.true_and]
        have e0 : lyk a i k (s_numbers (sAt (x_sheets x) t)) 0 = a_wy a i := by
          funext j; unfold lyk; rw [if_neg (fun w => by have := w.1; omega)]
        obtain ⟨d', v1, v2, v3⟩ := m_lays_L (N := N) hI (one := i) (t := t) (k := k) (f := s_numbers (sAt (x_sheets x) t)) hi (by omega) k1 9 0 N m (by omega) (by omega) k3 k5 (by rw [e0, wset_id]; exact hS)
        have v1 : f_X5_lays_L47 N N (nI t) (nI i) 0 0 m = _ := v1
        rw [x_marks hN k1 k2, some_bind', rd_nI (by omega) (by decide), some_bind', r1, some_bind', w1, some_bind', ck_nI (by omega) (by decide), some_bind', lt_eq, bitc hb12, some_bind', nI_clamp (by omega), v1, ec]
        have w3 : LK R (lyk a i k (s_numbers (sAt (x_sheets x) t)) 9) := LK_cong (fun j hj => by
          unfold lyk
          by_cases cj : tl k (s_numbers (sAt (x_sheets x) t)) j = true
          · rw [if_pos cj, if_pos ⟨hj, cj⟩]
          · rw [if_neg cj, if_neg (fun w => cj w.2)]) w2
        exact ok_go hR _ (KX.v x _) v3 (wset_inv hI (lyk_le hI hi k _ 9)) v2 (hV.wy w3)
      · rw [if_neg c2, if_neg c2, if_neg (by decide)]
        exact bad
  · rw [x_shOut c1, some_bind', sel_none, m_wants_out c1, some_bind', if_neg (by decide), some_bind', if_neg (by decide)]
    exact bad
end SH2
