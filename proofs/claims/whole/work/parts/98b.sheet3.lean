/-! ===== OPERATIONS: book, read ===== -/
theorem xs_get (x : XD) (f : Nat → SD) : x_sheets (x_set_sheets x f) = f := rfl
theorem xs_set (x : XD) (f g : Nat → SD) : x_set_sheets (x_set_sheets x f) g = x_set_sheets x g := rfl
theorem xs_tr (x : XD) (f : Nat → SD) : x_trial (x_set_sheets x f) = x_trial x := rfl
theorem xs_id (x : XD) : x_set_sheets x (x_sheets x) = x := rfl
section SH3
variable {N : Nat} {x : XD} {m : MD} {a : AS}
theorem book_L (hN : 5000 ≤ N) {b : AS} (hI : Inv b) {t k bb R : Nat} (ht : t < 4) (hk : k ≤ 40) (hR : R ≤ k) (hR2 : R ≤ a_n b) (hR3 : R = k ∨ R = a_n b) : ∀ (u q f g : Nat) (x : XD) (d : MD), q + u = R → u < f → u < g → VR b (x_trial x) → SR b (m_s d) → (∀ w, w < 4 → SHR (x_sheets x w) d w) → s_size (x_sheets x t) = nI k → s_bits (x_sheets x t) = nI bb → m_sizes d t = nI k → m_bitsOf d t = nI bb →
    ∃ ff d', f_X4_book_L102 N t f (nI R) (nI q) x = some (nI R, x_set_sheets x ff) ∧ f_X5_book_L49 N g (nI t) (nI q) (nI q) d = (f_X5_laysBack N d').bind (fun e => some (nI R, e)) ∧ (∀ w, w < 4 → SHR (ff w) d' w) ∧ KN d d' ∧ m_close d' = m_close d := by
  have hn := hI.1
  intro u
  induction u with
  | zero =>
    intro q f g x d e1 e2 e3 hV hS hs s1 s2 s3 s4
    obtain ⟨f', rfl⟩ : ∃ f', f = f' + 1 := ⟨f - 1, by omega⟩
    obtain ⟨g', rfl⟩ : ∃ g', g = g' + 1 := ⟨g - 1, by omega⟩
    obtain rfl : q = R := by omega
    refine ⟨x_sheets x, d, ?_, ?_, hs, KN.rf d, rfl⟩
    · rw [f_X4_book_L102, if_pos (nI_le (Nat.le_refl _) (by omega)), xs_id]
    · rw [f_X5_book_L49, rd_nI ht (by decide), some_bind', s3]
      by_cases c : k ≤ q
      · rw [if_pos (nI_le c (by omega))]
      · rw [if_neg (nI_ge (by omega) (by omega)), m_n hS, some_bind', if_pos (nI_le (by omega) (by omega))]
  | succ u ih =>
    intro q f g x d e1 e2 e3 hV hS hs s1 s2 s3 s4
    obtain ⟨f', rfl⟩ : ∃ f', f = f' + 1 := ⟨f - 1, by omega⟩
    obtain ⟨g', rfl⟩ : ∃ g', g = g' + 1 := ⟨g - 1, by omega⟩
    have ei : ((40 : Int32) * nI t) + nI q = nI (40 * t + q) := by rw [lit_nI 40, nI_muln, nI_addn]
    have hs1 : s_size (sAt (x_sheets x) t) = nI k := s1
    have hs2 : s_bits (sAt (x_sheets x) t) = nI bb := s2
    rw [f_X4_book_L102, if_neg (nI_ge (show q < R by omega) (by omega)), v_heir hN hI hV (show q < a_n b by omega), some_bind', xs_put hk hs1 (show q < k by omega), bd2_some, lt_eq, lt_eq, nI_1, hs2]
    rw [f_X5_book_L49, rd_nI ht (by decide), some_bind', s3, if_neg (nI_ge (by omega) (by omega)), m_n hS, some_bind', if_neg (nI_ge (by omega) (by omega)), rd_nI ht (by decide), some_bind', s4, m_heir hN hI hS (show q < a_n b by omega), some_bind', m_nar, some_bind', ei, ck_nI (by omega) (by decide), some_bind', lt_eq, lt_eq, lt_eq, nI_1, nI_clamp (by omega)]
    have hp := shr_put (f := x_sheets x) (d := d) (t := t) (i := q) ht (by omega) hs (nar (nI bb) (enc (heir b q)).toInt64)
    have z1 := KN.num d (vp_updL (m_numbers d) (40 * t + q) (nar (nI bb) (enc (heir b q)).toInt64))
    have z2 : m_sizes (m_set_numbers d (vp_updL (m_numbers d) (40 * t + q) (nar (nI bb) (enc (heir b q)).toInt64))) = m_sizes d := rfl
    have z3 : m_bitsOf (m_set_numbers d (vp_updL (m_numbers d) (40 * t + q) (nar (nI bb) (enc (heir b q)).toInt64))) = m_bitsOf d := rfl
    have z4 : m_close (m_set_numbers d (vp_updL (m_numbers d) (40 * t + q) (nar (nI bb) (enc (heir b q)).toInt64))) = m_close d := rfl
    generalize m_set_numbers d (vp_updL (m_numbers d) (40 * t + q) (nar (nI bb) (enc (heir b q)).toInt64)) = d1 at hp z1 z2 z3 z4 ⊢
    have y1 : s_size (sPut (x_sheets x) t (s_set_numbers (x_sheets x t) (vp_updL (s_numbers (x_sheets x t)) q (nar (nI bb) (enc (heir b q)).toInt64))) t) = nI k := by rw [sPut_s]; exact s1
    have y2 : s_bits (sPut (x_sheets x) t (s_set_numbers (x_sheets x t) (vp_updL (s_numbers (x_sheets x t)) q (nar (nI bb) (enc (heir b q)).toInt64))) t) = nI bb := by rw [sPut_s]; exact s2
    obtain ⟨ff, d', w1, w2, w3, w4, w5⟩ := ih (q + 1) f' g' (x_set_sheets x (sPut (x_sheets x) t (s_set_numbers (x_sheets x t) (vp_updL (s_numbers (x_sheets x t)) q (nar (nI bb) (enc (heir b q)).toInt64))))) d1 (by omega) (by omega) (by omega) hV (by rw [z1.1]; exact hS) hp y1 y2 (by rw [z2]; exact s3) (by rw [z3]; exact s4)
    rw [xs_set] at w1
    exact ⟨ff, d', w1, w2, w3, z1.tr w4, w5.trans z4⟩
theorem op_book (hN : 5000 ≤ N) (h : Sys x m) (p1 p2 : Int32) : Ok (f_X4_book N p1 p2 x) (f_X5_book N p1 p2 m) := by
  have hh := h
  obtain ⟨a, hI, hS, hV, hR⟩ := h
  have hn := hI.1
  have bad : Ok (bd2 (f_X4_tell N (-1000000001) x) fun r d => some (r, d)) (bd2 (f_X5_finds N (-1000000001) m) fun r d => some (r, d)) := ok_tell hh _ 0 (by decide) (by decide)
  have miss : Ok (bd2 (f_X4_tell N (-1000000006) x) fun r d => some (r, d)) (bd2 (f_X5_finds N (-1000000006) m) fun r d => some (r, d)) := ok_tell hh _ 5 (by decide) (by decide)
  have late : Ok (bd2 (f_X4_tell N (-1000000005) x) fun r d => some (r, d)) (bd2 (f_X5_finds N (-1000000005) m) fun r d => some (r, d)) := ok_tell hh _ 4 (by decide) (by decide)
  unfold f_X4_book f_X5_book f_X5_book_J21
  by_cases c1 : 0 ≤ p1 ∧ p1 ≤ 3
  · obtain ⟨t, ht, rfl⟩ := in_nat (m := 3) (by decide) c1
    rw [x_shIn (show t < 4 by omega), some_bind', sel_some]
    have hs : SHR (sAt (x_sheets x) t) m t := hR.2.2.2.1 t (by omega)
    rcases x_miss (N := N) hs with ⟨q1, q2⟩ | ⟨b, qb, q1, q2, q3⟩
    · rw [q1, some_bind', if_neg (by decide), m_wants_miss (by omega) q2, some_bind', if_neg (by decide), some_bind', if_neg (by decide)]
      exact miss
    · obtain ⟨k, k1, k2, k3, -, k5⟩ := hs
      rw [q1, some_bind', if_pos rfl, m_wants_in (by omega) (by omega) q3, some_bind', if_pos rfl, x_in, some_bind', if10]
      by_cases c2 : 0 ≤ p2 ∧ p2 ≤ 100
      · obtain ⟨n, hn', rfl⟩ := in_nat (m := 100) (by decide) c2
        rw [if_pos c2, x_late hI hV hn', some_bind', if01, m_bars_in hI hS hn', some_bind']
        by_cases c3 : a_y a + n ≤ 9999
        · rw [if_pos c3, if_pos c3, if_pos rfl]
          obtain ⟨y1, y2, -⟩ := years_ok hI n c3
          obtain ⟨tt, t1, t2, t3⟩ := x_try (N := N) hI hV
          obtain ⟨v', v1, v2, v3⟩ := v_years hN hI t2 c3 hn'
          obtain ⟨d1, a1, a2, a3, a4, a5⟩ := m_lay hN hI hS
          obtain ⟨d2, b1, b2, b3, b4⟩ := m_yrs hN hI a2 (a4.2.2.2.2.2.2.2.2.trans hR.2.2.2.2.2) c3 hn'
          have kr : KR m d2 := a4.tr b3
          rw [t1, some_bind', lt_eq, xt_get, v1, bd2_some, lt_eq, xt_set, xt_sh, xt_get, lt_eq, k2, v2.1, a1, some_bind', b1, bd2_some]
          have er : (if nI k < nI (a_n (years a n)) then nI k else nI (a_n (years a n))) = nI (if k < a_n (years a n) then k else a_n (years a n)) := by
            by_cases c : k < a_n (years a n)
            · rw [if_pos (nI_lt c (by omega)), if_pos c]
            · rw [if_neg (nI_nlt (by omega) (by omega)), if_neg c]
          rw [er]
          have hR1 := hR.go (KX.t x v' ((congrFun v3.1 12).trans t3)) kr
          obtain ⟨ff, d3, w1, w2, w3, w4, w5⟩ := book_L (N := N) hN y2 (t := t) (k := k) (bb := b) (R := if k < a_n (years a n) then k else a_n (years a n)) (by omega) k1 (by split <;> omega) (by split <;> omega) (by split <;> omega) (if k < a_n (years a n) then k else a_n (years a n)) 0 N N (x_set_trial x v') d2 (by omega) (by split <;> omega) (by split <;> omega) v2 b2 hR1.2.2.2.1 k2 q2 (by rw [kr.2.2.2.2.2.2.1]; exact k3) (by rw [kr.2.2.2.2.2.1]; exact q3)
          have w1 : f_X4_book_L102 N t N (nI (if k < a_n (years a n) then k else a_n (years a n))) 0 (x_set_trial x v') = _ := w1
          have w2 : f_X5_book_L49 N N (nI t) 0 0 d2 = _ := w2
          obtain ⟨d4, u1, u2, u3, u4⟩ := m_unlay hN hI (m := d3) (by rw [w5, b4]; exact a3)
          rw [w1, w2, u1, some_bind']
          exact ⟨_, _, _, rfl, rfl, a, hI, u2, hV, (rest_sh hR1 w4 w3).go (KX.rf _) u3⟩
        · rw [if_neg c3, if_neg c3, if_neg (by decide)]
          exact late
      · rw [if_neg c2, m_bars_out c2, some_bind', if_neg (by decide)]
        exact bad
  · rw [x_shOut c1, some_bind', sel_none, m_wants_out c1, some_bind', if_neg (by decide), some_bind', if_neg (by decide)]
    exact bad
/-! the stranger -/
def hbS (a : AS) (lk : Nat → Nat) : Nat → Nat
  | 0 => 0
  | k + 1 => if a_lv a k = false then hbS a lk k else if hbS a lk k = 0 ∨ lk (hbS a lk k - 1) < lk k ∨ (lk (hbS a lk k - 1) = lk k ∧ a_ag a (hbS a lk k - 1) < a_ag a k) then k + 1 else hbS a lk k
theorem hbS_le (a : AS) (lk : Nat → Nat) : ∀ k, hbS a lk k ≤ k
  | 0 => Nat.le_refl _
  | k + 1 => by
    have ih := hbS_le a lk k
    rw [hbS]
    split
    · omega
    · split <;> omega
theorem hbS_cong {a b : AS} {lk lk' : Nat → Nat} (h1 : a_lv a = a_lv b) (h2 : a_ag a = a_ag b) : ∀ n, (∀ k, k < n → lk k = lk' k) → hbS a lk n = hbS b lk' n
  | 0, _ => rfl
  | n + 1, h => by
    have ih := hbS_cong (a := a) (b := b) h1 h2 n (fun k hk => h k (by omega))
    have le := hbS_le b lk' n
    rw [hbS, hbS, ih, h1, h2, h n (by omega)]
    by_cases c : hbS b lk' n = 0
    · simp [c]
    · rw [h (hbS b lk' n - 1) (by omega)]
def likeS (b : AS) (w : Nat → Nat) (j : Nat) : Nat := sm (fun q => if (w q == a_wy b j q || (q == 8 && a_kd b j == 4)) then a_wt b q else 0) 9
theorem likeS_le {b : AS} (hI : Inv b) (w : Nat → Nat) (j : Nat) : likeS b w j ≤ 81 := by
  have h1 : likeS b w j ≤ 9 * 9 := sm_le (fun k hk => by
    show (if (w k == a_wy b j k || (k == 8 && a_kd b j == 4)) then a_wt b k else 0) ≤ 9
    split
    · exact (hI.2.2.2.1 k hk).1
    · omega)
  omega
theorem v_likeS {b : AS} {v : VD} (hI : Inv b) (hV : VR b v) {w : Nat → Nat} (hL : LK (v_looks v 12) w) (hw : ∀ q, q < 9 → w q ≤ 3) (hch : v_children v 12 = -1) {j : Nat} (hj : j < a_n b) : f_X3_likeness N (nI 12) (nI j) v = some (nI (likeS b w j)) := by
  have hn := hI.1
  obtain ⟨v1, v2, v3, v4, v5, ⟨v6, v6'⟩, v7⟩ := hV
  obtain ⟨j1, j2, j3, j4, j5, j6⟩ := v7 j hj
  have bj := hI.2.2.2.2 j hj
  obtain ⟨u, hu, hub⟩ := x_unlike (N := N) hL j6 hw (fun q hq => bj.2.2.2.2.2.2 q hq)
  have fin : ∀ y : Int32, (∀ q, q < 32 → bt y q = (decide (q < 9) && (w q == a_wy b j q || (q == 8 && a_kd b j == 4)))) → f_X3_likeness_J38 N v (nI 12) (nI j) y = some (nI (likeS b w j)) := by
    intro y hx
    have hx9 : ∀ q, 9 ≤ q → bt y q = false := fun q hq => by
      rcases Nat.lt_or_ge q 32 with c | c
      · rw [hx q c, decide_eq_false (by omega), Bool.false_and]
      · exact b_big c
    obtain ⟨l, l1, l2, l3⟩ := and31 y
    obtain ⟨g, g1, g2, g3⟩ := shr5 y hx9
    have e : likeS b w j = mlow b l + mupp b g := by
      unfold likeS mlow mupp
      rw [show (9 : Nat) = 5 + 4 from rfl, sm_split _ 5 4]
      congr 1
      · apply sm_cong
        intro k hk
        rw [l3 k hk, hx k (by omega), decide_eq_true (by omega), Bool.true_and]
      · apply sm_cong
        intro k hk
        rw [g3 k hk, hx (k + 5) (by omega), decide_eq_true (by omega), Bool.true_and, Nat.add_comm k 5]
    unfold f_X3_likeness_J38
    rw [l2, rd_nI l1 (by decide), some_bind', g2, rd_nI g1 (by decide), some_bind', lt_eq, v6 l l1, v6' g g1, nI_addn, rd_nI (by omega) (by decide), some_bind', hch, if_neg (nI_ne_m1 j (by omega)), e]
    split <;> rfl
  unfold f_X3_likeness
  rw [rd_nI (by omega) (by decide), some_bind', rd_nI (by omega) (by decide), some_bind', hu, some_bind', lt_eq, rd_nI (by omega) (by decide), some_bind', j1]
  have hs : ∀ q, q < 32 → bt ((511 : Int32) &&& (u ^^^ (-1))) q = (decide (q < 9) && decide (w q = a_wy b j q)) := by
    intro q hq
    rw [b_and, b_511 q hq, b_not u hq, hub q hq]
    by_cases c : q < 9
    · by_cases c2 : w q = a_wy b j q <;> simp [c, c2]
    · simp [c]
  by_cases c : a_kd b j = 4
  · rw [if_pos (by rw [c]; rfl), lt_eq]
    apply fin
    intro q hq
    rw [b_or, hs q hq, b_256 q hq]
    by_cases c2 : q = 8
    · subst c2; simp [c]
    · by_cases c3 : w q = a_wy b j q <;> simp [c2, c3]
  · rw [if_neg (by rw [lit_nI 4, nI_eq_iff (by have := bj.1; omega) (by decide)]; exact c)]
    apply fin
    intro q hq
    rw [hs q hq]
    have c' : (a_kd b j == 4) = false := by simp [c]
    by_cases c3 : w q = a_wy b j q <;> simp [c', c3]
def smost (lk : Nat → Nat) (o : Nat) : Int32 := if o = 0 then -1 else nI (lk (o - 1))
theorem v_heirS_L {b : AS} {v : VD} (hI : Inv b) (hV : VR b v) {lk : Nat → Nat} (hb : ∀ k, lk k ≤ 100) (hlk : ∀ j, j < a_n b → f_X3_likeness N (nI 12) (nI j) v = some (nI (lk j))) : ∀ (t k n : Nat), k + t = a_n b → t < n →
    f_X3_heirFor_L10 N v n (nI 12) (enc (hbS b lk k)) (smost lk (hbS b lk k)) (veld b (hbS b lk k)) (nI k) = some (enc (hbS b lk (a_n b))) := by
  have hn := hI.1
  intro t
  induction t with
  | zero =>
    intro k n h1 h2
    obtain ⟨n', rfl⟩ : ∃ n', n = n' + 1 := ⟨n - 1, by omega⟩
    obtain rfl : k = a_n b := by omega
    rw [f_X3_heirFor_L10, hV.1, if_pos (nI_le (Nat.le_refl _) (by omega))]
  | succ t ih =>
    intro k n h1 h2
    obtain ⟨n', rfl⟩ : ∃ n', n = n' + 1 := ⟨n - 1, by omega⟩
    have hk : k < a_n b := by omega
    have ih' := ih (k + 1) n' (by omega) (by omega)
    have le := hbS_le b lk k
    have g1 := (hI.2.2.2.2 k hk).2.1
    have l1 := hb k
    rw [f_X3_heirFor_L10, hV.1, if_neg (nI_ge hk (by omega)), if_neg (by rw [nI_eq_iff (by omega) (by decide)]; omega), v_lives hI hV hk, some_bind']
    rw [hbS] at ih'
    cases c3 : a_lv b k with
    | false =>
      rw [if_pos (by rfl), lt_eq, nI_1]
      rw [if_pos c3] at ih'
      exact ih'
    | true =>
      rw [if_neg (by decide), hlk k hk, some_bind']
      rw [if_neg (by rw [c3]; decide)] at ih'
      have yes : (if hbS b lk k = 0 ∨ lk (hbS b lk k - 1) < lk k ∨ (lk (hbS b lk k - 1) = lk k ∧ a_ag b (hbS b lk k - 1) < a_ag b k) then k + 1 else hbS b lk k) = k + 1 → f_X3_heirFor_J70 N v (f_X3_heirFor_L10 N v n') (nI 12) (nI k) (nI (lk k)) = some (enc (hbS b lk (a_n b))) := by
        intro e
        rw [e] at ih'
        unfold f_X3_heirFor_J70
        rw [rd_nI (by omega) (by decide), some_bind', lt_eq, nI_1, (hV.2.2.2.2.2.2 k hk).2.1]
        rw [enc_s] at ih'
        exact ih'
      by_cases c4 : hbS b lk k = 0
      · rw [c4] at yes ⊢
        rw [if_pos (show smost lk 0 < nI (lk k) from m1_lt _ (by omega))]
        exact yes (if_pos (Or.inl rfl))
      · obtain ⟨o, ho⟩ : ∃ o, hbS b lk k = o + 1 := ⟨hbS b lk k - 1, by omega⟩
        have ho' : o < a_n b := by omega
        have l2 := hb o
        have g2 := (hI.2.2.2.2 o ho').2.1
        have e1 : smost lk (o + 1) = nI (lk o) := rfl
        have e2 : veld b (o + 1) = nI (a_ag b o) := rfl
        rw [ho] at ih' yes ⊢
        rw [e1, e2]
        simp only [Nat.add_sub_cancel, Nat.succ_ne_zero, false_or] at ih' yes
        by_cases c5 : lk o < lk k
        · rw [if_pos (by rw [nI_lt_iff (by omega) (by omega)]; exact c5)]
          exact yes (if_pos (Or.inl c5))
        · rw [if_neg (by rw [nI_lt_iff (by omega) (by omega)]; exact c5)]
          by_cases c6 : lk k = lk o
          · rw [if_pos (by rw [c6]), rd_nI (by omega) (by decide), some_bind', (hV.2.2.2.2.2.2 k hk).2.1]
            by_cases c7 : a_ag b k ≤ a_ag b o
            · rw [if_pos (by rw [nI_le_iff (by omega) (by omega)]; exact c7), lt_eq, nI_1]
              rw [if_neg (by omega), e1, e2] at ih'
              exact ih'
            · rw [if_neg (by rw [nI_le_iff (by omega) (by omega)]; exact c7)]
              exact yes (if_pos (Or.inr ⟨c6.symm, by omega⟩))
          · rw [if_neg (by rw [nI_eq_iff (by omega) (by omega)]; exact c6), lt_eq, nI_1]
            rw [if_neg (by omega), e1, e2] at ih'
            exact ih'
theorem v_stranger (hN : 5000 ≤ N) {b : AS} {v : VD} (hI : Inv b) (hV : VR b v) {L : Int32} {w : Nat → Nat} (hL : LK L w) (hw : ∀ q, q < 9 → w q ≤ 3) (hch : v_children v 12 = -1) : ∃ v', f_X3_heirOfStranger N L v = some (enc (hbS b (likeS b w) (a_n b)), v') ∧ v_children v' 12 = -1 := by
  have hn := hI.1
  have hV' : VR b (v_set_looks v (upd (v_looks v) 12 L)) := by
    obtain ⟨h1, h2, h3, h4, h5, h6, h7⟩ := hV
    refine ⟨h1, h2, h3, h4, h5, h6, fun k hk => ?_⟩
    obtain ⟨q0, q1, q2, q3, q4, q5⟩ := h7 k hk
    refine ⟨q0, q1, q2, q3, q4, ?_⟩
    show LK (upd (v_looks v) 12 L k) (a_wy b k)
    rw [pk_un (by omega)]
    exact q5
  have hL' : LK (v_looks (v_set_looks v (upd (v_looks v) 12 L)) 12) w := by
    show LK (upd (v_looks v) 12 L 12) w
    rw [pk_us]
    exact hL
  have hch' : v_children (v_set_looks v (upd (v_looks v) 12 L)) 12 = -1 := hch
  unfold f_X3_heirOfStranger
  rw [ck_at (i := (12 : Int32)) 12 rfl (by decide) (by decide), some_bind', lt_eq, cl_12]
  generalize v_set_looks v (upd (v_looks v) 12 L) = v2 at hV' hL' hch' ⊢
  have z : f_X3_heirFor N 12 v2 = some (enc (hbS b (likeS b w) (a_n b))) := by
    unfold f_X3_heirFor
    exact v_heirS_L (N := N) hI hV' (lk := likeS b w) (fun k => Nat.le_trans (likeS_le hI w k) (by omega)) (fun j hj => v_likeS hI hV' hL' hw hch' hj) (a_n b) 0 N (by omega) (by omega)
  rw [z, some_bind']
  exact ⟨v2, rfl, hch'⟩
def wz (a : AS) (k : Nat) (f : Nat → Int64) (e q : Nat) : Nat := if q < e ∧ tl k f q = false then 0 else a_wt a q
theorem wz_inv (hI : Inv a) (k : Nat) (f : Nat → Int64) (e : Nat) : Inv (a_set_wt a (wz a k f e)) := by
  refine ⟨hI.1, hI.2.1, hI.2.2.1, fun q hq => ⟨?_, (hI.2.2.2.1 q hq).2⟩, hI.2.2.2.2⟩
  show wz a k f e q ≤ 9
  unfold wz
  split
  · omega
  · exact (hI.2.2.2.1 q hq).1
def lkM (a : AS) (k : Nat) (f : Nat → Int64) (j : Nat) : Nat := sm (fun q => if (tl k f q && (tw f q == a_wy a j q || (q == 8 && a_kd a j == 4))) then a_wt a q else 0) 9
theorem lk_eq (k : Nat) (f : Nat → Int64) (j : Nat) : likeS (a_set_wt a (wz a k f 9)) (lwd k f 9) j = lkM a k f j := by
  unfold likeS lkM
  refine sm_cong (fun q hq => ?_)
  show (if (lwd k f 9 q == a_wy a j q || (q == 8 && a_kd a j == 4)) then wz a k f 9 q else 0) = _
  unfold wz lwd
  cases c : tl k f q with
  | true =>
    have jk : q < k := Classical.byContradiction (fun w => by rw [tl_hi (by omega)] at c; cases c)
    rw [if_pos (show q < 9 ∧ q < k from ⟨hq, jk⟩), if_neg (show ¬ (q < 9 ∧ true = false) from fun w => by cases w.2), Bool.true_and]
  | false =>
    rw [if_pos (show q < 9 ∧ false = false from ⟨hq, rfl⟩), Bool.false_and, if_neg (show ¬ false = true by decide)]
    simp
theorem lkM_le (hI : Inv a) (k : Nat) (f : Nat → Int64) (j : Nat) : lkM a k f j ≤ 81 := by
  rw [← lk_eq]
  exact likeS_le (wz_inv hI k f 9) _ _
theorem x_read_L (hN : 5000 ≤ N) (hI : Inv a) {t k : Nat} (ht : t < 4) (hk : k ≤ 40) {f : Nat → Int64} : ∀ (u q n : Nat) (x : XD), q + u = 9 → u < n → s_size (x_sheets x t) = nI k → s_numbers (x_sheets x t) = f → VR (a_set_wt a (wz a k f q)) (x_trial x) → v_children (x_trial x) 12 = -1 →
    ∃ v', f_X4_read_L50 N t n (sI (tl k f) 9) (nI q) x = (if enc (hbS a (lkM a k f) (a_n a)) = -1 then bd2 (f_X4_tell N (-1000000004) (x_set_trial x v')) (fun r d => some (r, d)) else some (enc (hbS a (lkM a k f) (a_n a)), x_set_trial x v')) ∧ v_children v' 12 = -1 := by
  have hn := hI.1
  intro u
  induction u with
  | zero =>
    intro q n x e1 e2 s1 s2 hV hc
    obtain ⟨n', rfl⟩ : ∃ n', n = n' + 1 := ⟨n - 1, by omega⟩
    obtain rfl : q = 9 := by omega
    have s1' : s_size (sAt (x_sheets x) t) = nI k := s1
    have s2' : s_numbers (sAt (x_sheets x) t) = f := s2
    obtain ⟨L, r1, r2⟩ := x_look (N := N) hN hk s1'
    rw [s2'] at r2
    obtain ⟨v', w1, w2⟩ := v_stranger (N := N) hN (wz_inv hI k f 9) hV r2 (fun j _ => by unfold lwd; split; exact tw_le f j; omega) hc
    have eh : hbS (a_set_wt a (wz a k f 9)) (likeS (a_set_wt a (wz a k f 9)) (lwd k f 9)) (a_n (a_set_wt a (wz a k f 9))) = hbS a (lkM a k f) (a_n a) := hbS_cong (a := a_set_wt a (wz a k f 9)) (b := a) rfl rfl (a_n a) (fun j _ => lk_eq k f j)
    rw [eh] at w1
    refine ⟨v', ?_, w2⟩
    rw [f_X4_read_L50, if_pos (show (9 : Int32) ≤ nI 9 from nI_le (Nat.le_refl 9) (by decide)), r1, some_bind', w1, bd2_some, lt_eq]
  | succ u ih =>
    intro q n x e1 e2 s1 s2 hV hc
    obtain ⟨n', rfl⟩ : ∃ n', n = n' + 1 := ⟨n - 1, by omega⟩
    rw [f_X4_read_L50, if_neg (show ¬ (9 : Int32) ≤ nI q from nI_ge (show q < 9 by omega) (by decide)), b_sft _ q (by omega), sI_bt _ 9 (by omega) q (by omega), decide_eq_true (show q < 9 by omega), Bool.true_and, if10]
    cases c : tl k f q with
    | true =>
      have ek : wz a k f q = wz a k f (q + 1) := by
        funext j
        unfold wz
        by_cases cl : j < q ∧ tl k f j = false
        · rw [if_pos cl, if_pos ⟨by omega, cl.2⟩]
        · rw [if_neg cl, if_neg (fun w => by
            by_cases cj : j = q
            · rw [cj, c] at w; cases w.2
            · exact cl ⟨by omega, w.2⟩)]
      rw [if_pos rfl, lt_eq, nI_1]
      exact ih (q + 1) n' x (by omega) (by omega) s1 s2 (by rw [← ek]; exact hV) hc
    | false =>
      obtain ⟨v1, p1, p2, p3⟩ := v_putWeight (N := N) hN hV (m := q) (by omega) 0
      have ek : va_up (wz a k f q) q 0 = wz a k f (q + 1) := by
        funext j
        by_cases cj : j = q
        · rw [cj, va_up_s]; unfold wz; rw [if_pos ⟨by omega, c⟩]
        · rw [va_up_n _ _ cj]; unfold wz
          by_cases cl : j < q ∧ tl k f j = false
          · rw [if_pos cl, if_pos ⟨by omega, cl.2⟩]
          · rw [if_neg cl, if_neg (fun w => cl ⟨by omega, w.2⟩)]
      have p2 : VR (a_set_wt (a_set_wt a (wz a k f q)) (va_up (wz a k f q) q 0)) v1 := p2
      rw [show a_set_wt (a_set_wt a (wz a k f q)) (va_up (wz a k f q) q 0) = a_set_wt a (va_up (wz a k f q) q 0) from rfl, ek] at p2
      have p1 : f_X3_putWeight N (nI q) 0 (x_trial x) = some (nI (a_wt (a_set_wt a (wz a k f q)) q), v1) := p1
      rw [if_neg (by decide), p1, bd2_some, lt_eq, lt_eq, nI_1]
      obtain ⟨v', w1, w2⟩ := ih (q + 1) n' (x_set_trial x v1) (by omega) (by omega) s1 s2 p2 ((congrFun p3.1 12).trans hc)
      simp only [xt_set] at w1
      exact ⟨v', w1, w2⟩
theorem m_likeS_L (hI : Inv a) {d : MD} (hS : SR a (m_s d)) {t k j : Nat} {f : Nat → Int64} (ht : t < 4) (hk : k ≤ 40) (hz : m_sizes d t = nI k) (hf : ∀ i, i < 40 → m_numbers d (40 * t + i) = f i) (hj : j < a_n a) : ∀ (u q n : Nat), q + u = 9 → u < n →
    f_X5_likeStranger_L5 N d n (nI t) (nI j) (nI (sm (fun q => if (tl k f q && (tw f q == a_wy a j q || (q == 8 && a_kd a j == 4))) then a_wt a q else 0) q)) (nI q) = some (nI (lkM a k f j)) := by
  have hn := hI.1
  intro u
  induction u with
  | zero =>
    intro q n e1 e2
    obtain ⟨n', rfl⟩ : ∃ n', n = n' + 1 := ⟨n - 1, by omega⟩
    obtain rfl : q = 9 := by omega
    rw [f_X5_likeStranger_L5, if_pos (show (9 : Int32) ≤ nI 9 from nI_le (Nat.le_refl 9) (by decide))]
    rfl
  | succ u ih =>
    intro q n e1 e2
    obtain ⟨n', rfl⟩ : ∃ n', n = n' + 1 := ⟨n - 1, by omega⟩
    have b2 := (hI.2.2.2.2 j hj).2.2.2.2.2.2 q (by omega)
    have b3 := (hI.2.2.2.2 j hj).1
    rw [f_X5_likeStranger_L5, if_neg (show ¬ (9 : Int32) ≤ nI q from nI_ge (show q < 9 by omega) (by decide)), rd_nI ht (by decide), some_bind', hz]
    by_cases c : k ≤ q
    · rw [if_pos (nI_le c (by omega))]
      unfold lkM
      rw [sm_bits (p := fun q => (tl k f q && (tw f q == a_wy a j q || (q == 8 && a_kd a j == 4)))) (g := a_wt a) (show q ≤ 9 by omega) (fun i hi => by rw [tl_hi (by omega), Bool.false_and])]
    · have ei : ((40 : Int32) * nI t) + nI q = nI (40 * t + q) := by rw [lit_nI 40, nI_muln, nI_addn]
      have ih' := ih (q + 1) n' (by omega) (by omega)
      rw [sm] at ih'
      rw [if_neg (nI_ge (by omega) (by omega)), ei, rdL_nI (by omega) (by decide), some_bind', hf q (by omega), m_wy hI hS hj (by omega), some_bind']
      have fin : ∀ (s : Bool) (t0 : Int32), t0 = (if s then 1 else 0) → (0 ≤ (f q).toInt ∧ (f q).toInt ≤ 3 → s = (tw f q == a_wy a j q || (q == 8 && a_kd a j == 4))) → f_X5_likeStranger_J76 N d (f_X5_likeStranger_L5 N d n') (nI t) (nI j) (nI (sm (fun q => if (tl k f q && (tw f q == a_wy a j q || (q == 8 && a_kd a j == 4))) then a_wt a q else 0) q)) (nI q) (f q) t0 = some (nI (lkM a k f j)) := by
        intro s t0 h0 hs
        unfold f_X5_likeStranger_J76
        rw [m_in64, some_bind', if10, h0]
        by_cases c1 : 0 ≤ (f q).toInt ∧ (f q).toInt ≤ 3
        · rw [tl_iff (by omega), decide_eq_true c1, Bool.true_and, ← hs c1] at ih'
          rw [if_pos c1, if10]
          cases s with
          | true =>
            rw [if_pos rfl] at ih'
            rw [if_pos rfl, m_wt hS (by omega), some_bind', lt_eq, lt_eq, nI_1, nI_addn]
            exact ih'
          | false =>
            rw [if_neg (by decide)] at ih'
            rw [if_neg (by decide), lt_eq, lt_eq, nI_1, lit_nI 0, nI_addn]
            exact ih'
        · rw [tl_iff (by omega), decide_eq_false c1, Bool.false_and, if_neg (by decide)] at ih'
          rw [if_neg c1, lt_eq, lt_eq, nI_1, lit_nI 0, nI_addn]
          exact ih'
      unfold f_X5_likeStranger_J71 f_X5_likeStranger_J75
      have ev : (nI (a_wy a j q)).toInt64 = lN (a_wy a j q) := nI_l (by omega)
      have eq1 : (lg_cmp (f q) (nI (a_wy a j q)).toInt64 = 0) = (f q = lN (a_wy a j q)) := by rw [ev]; exact propext (lg_cmp_eq _ _)
      have teq : 0 ≤ (f q).toInt ∧ (f q).toInt ≤ 3 → (f q = lN (a_wy a j q) ↔ tw f q = a_wy a j q) := by
        intro c1
        have z : f q = lN (tw f q) := told_v c1
        have tl' := tw_le f q
        rw [z, pk_lEQ (by omega) (by omega)]
      by_cases c2 : f q = lN (a_wy a j q)
      · rw [if_pos (by rw [eq1]; exact c2)]
        exact fin true 1 rfl (fun c1 => by rw [(teq c1).mp c2]; simp)
      · rw [if_neg (by rw [eq1]; exact c2)]
        by_cases c8 : q = 8
        · rw [if_pos (by rw [c8]; rfl), m_kd hI hS hj, some_bind']
          by_cases c4 : a_kd a j = 4
          · rw [if_pos (by rw [c4]; rfl)]
            exact fin true 1 rfl (fun c1 => by rw [c8, c4]; simp)
          · rw [if_neg (by rw [lit_nI 4, nI_eq_iff (by omega) (by decide)]; exact c4)]
            exact fin false 0 rfl (fun c1 => by
              have n1 : ¬ tw f q = a_wy a j q := fun w => c2 ((teq c1).mpr w)
              simp [n1, c4])
        · rw [if_neg (by rw [lit_nI 8, nI_eq_iff (by omega) (by decide)]; exact c8)]
          exact fin false 0 rfl (fun c1 => by
            have n1 : ¬ tw f q = a_wy a j q := fun w => c2 ((teq c1).mpr w)
            simp [n1, c8])
theorem m_likeS (hN : 5000 ≤ N) (hI : Inv a) {d : MD} (hS : SR a (m_s d)) {t k j : Nat} {f : Nat → Int64} (ht : t < 4) (hk : k ≤ 40) (hz : m_sizes d t = nI k) (hf : ∀ i, i < 40 → m_numbers d (40 * t + i) = f i) (hj : j < a_n a) : f_X5_likeStranger N (nI t) (nI j) d = some (nI (lkM a k f j)) := by
  unfold f_X5_likeStranger
  exact m_likeS_L hI hS ht hk hz hf hj 9 0 N (by omega) (by omega)
theorem m_read_L (hN : 5000 ≤ N) (hI : Inv a) {d : MD} (hS : SR a (m_s d)) {t k : Nat} {f : Nat → Int64} (ht : t < 4) (hk : k ≤ 40) (hz : m_sizes d t = nI k) (hf : ∀ i, i < 40 → m_numbers d (40 * t + i) = f i) : ∀ (u q n : Nat), q + u = a_n a → u < n →
    f_X5_read_L22 N n (nI t) (enc (hbS a (lkM a k f) q)) (nI q) d = (if 0 ≤ enc (hbS a (lkM a k f) (a_n a)) then some (enc (hbS a (lkM a k f) (a_n a)), d) else bd2 (f_X5_finds N (-1000000004) d) (fun r d => some (r, d))) := by
  have hn := hI.1
  intro u
  induction u with
  | zero =>
    intro q n e1 e2
    obtain ⟨n', rfl⟩ : ∃ n', n = n' + 1 := ⟨n - 1, by omega⟩
    obtain rfl : q = a_n a := by omega
    rw [f_X5_read_L22, m_n hS, some_bind', if_pos (nI_le (Nat.le_refl _) (by omega))]
  | succ u ih =>
    intro q n e1 e2
    obtain ⟨n', rfl⟩ : ∃ n', n = n' + 1 := ⟨n - 1, by omega⟩
    have hq : q < a_n a := by omega
    have ih' := ih (q + 1) n' (by omega) (by omega)
    have le := hbS_le a (lkM a k f) q
    have l1 := lkM_le hI k f q
    have g1 := (hI.2.2.2.2 q hq).2.1
    rw [f_X5_read_L22, m_n hS, some_bind', if_neg (nI_ge hq (by omega)), m_lives hI hS hq, some_bind']
    rw [hbS] at ih'
    cases c3 : a_lv a q with
    | false =>
      rw [if_pos (by rfl), lt_eq, nI_1]
      rw [if_pos c3] at ih'
      exact ih'
    | true =>
      rw [if_neg (by decide)]
      rw [if_neg (by rw [c3]; decide)] at ih'
      by_cases c4 : hbS a (lkM a k f) q = 0
      · rw [if_neg (show ¬ 0 ≤ enc (hbS a (lkM a k f) q) by rw [enc_nn (by omega)]; exact fun z => z c4)]
        rw [if_pos (Or.inl c4), enc_s] at ih'
        unfold f_X5_read_J61
        rw [if_pos (by decide), lt_eq, nI_1]
        exact ih'
      · rw [if_pos (show 0 ≤ enc (hbS a (lkM a k f) q) by rw [enc_nn (by omega)]; exact c4)]
        obtain ⟨o, ho⟩ : ∃ o, hbS a (lkM a k f) q = o + 1 := ⟨hbS a (lkM a k f) q - 1, by omega⟩
        have ho' : o < a_n a := by omega
        have l2 := lkM_le hI k f o
        have g2 := (hI.2.2.2.2 o ho').2.1
        rw [ho] at ih' ⊢
        rw [enc_s, m_likeS hN hI hS ht hk hz hf hq, some_bind', m_likeS hN hI hS ht hk hz hf ho', some_bind']
        simp only [Nat.add_sub_cancel, Nat.succ_ne_zero, false_or] at ih'
        unfold f_X5_read_J61
        by_cases c5 : lkM a k f o < lkM a k f q
        · rw [if_pos (by rw [nI_sub_pos (by omega) (by omega)]; exact c5), lt_eq, nI_1]
          rw [if_pos (Or.inl c5), enc_s] at ih'
          exact ih'
        · rw [if_neg (by rw [nI_sub_pos (by omega) (by omega)]; exact c5)]
          by_cases c6 : lkM a k f q = lkM a k f o
          · rw [if_pos (by rw [nI_sub_0 (by omega) (by omega)]; exact c6), m_ag hI hS hq, some_bind', m_ag hI hS ho', some_bind']
            by_cases c7 : a_ag a q ≤ a_ag a o
            · rw [if_pos (by rw [nI_le_iff (by omega) (by omega)]; exact c7), lt_eq, nI_1]
              rw [if_neg (by omega), enc_s] at ih'
              exact ih'
            · rw [if_neg (by rw [nI_le_iff (by omega) (by omega)]; exact c7), lt_eq, nI_1]
              rw [if_pos (Or.inr ⟨c6.symm, by omega⟩), enc_s] at ih'
              exact ih'
          · rw [if_neg (by rw [nI_sub_0 (by omega) (by omega)]; exact c6), lt_eq, nI_1]
            rw [if_neg (by omega), enc_s] at ih'
            exact ih'
theorem op_read (hN : 5000 ≤ N) (h : Sys x m) (p1 : Int32) : Ok (f_X4_read N p1 x) (f_X5_read N p1 m) := by
  have hh := h
  obtain ⟨a, hI, hS, hV, hR⟩ := h
  have hn := hI.1
  have bad : Ok (bd2 (f_X4_tell N (-1000000001) x) fun r d => some (r, d)) (bd2 (f_X5_finds N (-1000000001) m) fun r d => some (r, d)) := ok_tell hh _ 0 (by decide) (by decide)
  have miss : Ok (bd2 (f_X4_tell N (-1000000006) x) fun r d => some (r, d)) (bd2 (f_X5_finds N (-1000000006) m) fun r d => some (r, d)) := ok_tell hh _ 5 (by decide) (by decide)
  unfold f_X4_read f_X5_read
  by_cases c1 : 0 ≤ p1 ∧ p1 ≤ 3
  · obtain ⟨t, ht, rfl⟩ := in_nat (m := 3) (by decide) c1
    rw [x_shIn (show t < 4 by omega), some_bind', sel_some]
    have hs : SHR (sAt (x_sheets x) t) m t := hR.2.2.2.1 t (by omega)
    rcases x_miss (N := N) hs with ⟨q1, q2⟩ | ⟨b, qb, q1, q2, q3⟩
    · rw [q1, some_bind', if_neg (by decide), m_wants_miss (by omega) q2, some_bind', if_neg (by decide), some_bind']
      exact miss
    · obtain ⟨k, k1, k2, k3, -, k5⟩ := hs
      rw [q1, some_bind', if_pos rfl, m_wants_in (by omega) (by omega) q3, some_bind', if_pos rfl]
      obtain ⟨u, t1, t2, t3⟩ := x_try (N := N) hI hV
      have tc : v_children u 12 = -1 := t3.trans hR.2.1
      have e0 : a_set_wt a (wz a k (s_numbers (sAt (x_sheets x) t)) 0) = a := by
        have e1 : wz a k (s_numbers (sAt (x_sheets x) t)) 0 = a_wt a := by
          funext j; unfold wz; rw [if_neg (fun w => by have := w.1; omega)]
        rw [e1]
        rfl
      obtain ⟨v', w1, w2⟩ := x_read_L (N := N) hN hI (t := t) (k := k) (f := s_numbers (sAt (x_sheets x) t)) (by omega) k1 9 0 N (x_set_trial x u) (by omega) (by omega) k2 rfl (by rw [e0]; exact t2) tc
      have z := m_read_L (N := N) hN hI hS (t := t) (k := k) (f := s_numbers (sAt (x_sheets x) t)) (by omega) k1 k3 k5 (a_n a) 0 N (by omega) (by omega)
      have w1 : f_X4_read_L50 N t N (sI (tl k (s_numbers (sAt (x_sheets x) t))) 9) 0 (x_set_trial x u) = _ := w1
      have z : f_X5_read_L22 N N (nI t) (-1) 0 m = _ := z
      have hl := hbS_le a (lkM a k (s_numbers (sAt (x_sheets x) t))) (a_n a)
      rw [t1, some_bind', lt_eq, xt_sh, x_marks hN k1 k2, some_bind', w1, z, xt_set]
      have kx : KX x (x_set_trial x v') := KX.t x v' (w2.trans hR.2.1.symm)
      by_cases c4 : hbS a (lkM a k (s_numbers (sAt (x_sheets x) t))) (a_n a) = 0
      · rw [if_pos (by rw [enc_m1 (by omega)]; exact c4), if_neg (by rw [enc_nn (by omega)]; exact fun z => z c4)]
        exact bad_go hR kx (KR.rf m) hI hS hV _ 3 (by decide) (by decide)
      · rw [if_neg (by rw [enc_m1 (by omega)]; exact c4), if_pos (by rw [enc_nn (by omega)]; exact c4)]
        exact ok_go hR _ kx (KR.rf m) hI hS hV
  · rw [x_shOut c1, some_bind', sel_none, m_wants_out c1, some_bind', if_neg (by decide), some_bind']
    exact bad
end SH3
