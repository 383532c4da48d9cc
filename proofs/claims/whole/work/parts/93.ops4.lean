/-! ===== OPERATIONS: years ahead ===== -/
theorem xt_get (x : XD) (v : VD) : x_trial (x_set_trial x v) = v := rfl
theorem xt_set (x : XD) (v w : VD) : x_set_trial (x_set_trial x v) w = x_set_trial x w := rfl
theorem xt_val (x : XD) (v : VD) : x_valley (x_set_trial x v) = x_valley x := rfl
theorem xt_sh (x : XD) (v : VD) : x_sheets (x_set_trial x v) = x_sheets x := rfl
theorem ntd_hit {b : AS} {i : Nat} : ∀ (t k : Nat) (y : Int32), k ≤ i → i < k + t → dcond b i → ntd b (i + 1) k t y = enc (heir (dead (deaths b i) i) i)
  | 0, k, y, h1, h2, _ => absurd h2 (by omega)
  | t + 1, k, y, h1, h2, hd => by
    rw [ntd]
    by_cases c : k = i
    · subst c
      rw [if_pos ⟨hd, rfl⟩]
      have miss : ∀ (t k' : Nat) (z : Int32), k < k' → ntd b (k + 1) k' t z = z := by
        intro t
        induction t with
        | zero => intro k' z _; rfl
        | succ t ih => intro k' z hk; rw [ntd, if_neg (fun w => by have := w.2; omega)]; exact ih (k' + 1) z (by omega)
      exact miss t (k + 1) _ (by omega)
    · exact ntd_hit t (k + 1) _ (by omega) (by omega) hd
theorem ntd_miss {b : AS} {i : Nat} (hd : ¬ dcond b i) : ∀ (t k : Nat) (y : Int32), ntd b (i + 1) k t y = y
  | 0, k, y => rfl
  | t + 1, k, y => by
    rw [ntd, if_neg (fun w => hd (by have e : i = k := by have := w.2; omega
                                     rw [e]; exact w.1))]
    exact ntd_miss hd t (k + 1) y
section OPS4
variable {N : Nat} {x : XD} {m : MD} {a : AS}
theorem m_bars_in (hI : Inv a) (hS : SR a (m_s m)) {n : Nat} (hn : n ≤ 100) : f_X5_barsOn N (nI n) m = some (if a_y a + n ≤ 9999 then 0 else -1000000005) := by
  unfold f_X5_barsOn
  rw [mi_0_100, some_bind', if10, if_pos ⟨nI_pos' (by omega), nI_le hn (by decide)⟩, m_far hI hS hn, some_bind', if01]
  split <;> rfl
theorem m_bars_out {p : Int32} (h : ¬ (0 ≤ p ∧ p ≤ 100)) : f_X5_barsOn N p m = some (-1000000001) := by
  unfold f_X5_barsOn
  rw [mi_0_100, some_bind', if10, if_neg h]
/-- a trial of years, on both sides -/
theorem try_years (hN : 5000 ≤ N) (hI : Inv a) (hS : SR a (m_s m)) (hV : VR a (x_valley x)) (hA : m_asked m = -1) {n : Nat} (hy : a_y a + n ≤ 9999) (h100 : n ≤ 100) :
    ∃ t v' d1 d2 d3, f_X3_takeFrom N (x_trial x) (x_valley x) = some t ∧ f_X3_goYears N (nI n) t = some (nI (yearsD a n), v') ∧ VR (years a n) v' ∧ v_children v' 12 = v_children (x_trial x) 12 ∧ YM a n t v' ∧ f_X5_laysBy N m = some d1 ∧ f_X5_goesOnMany N (nI n) d1 = some (nI (yearsD a n), d2) ∧ SR (years a n) (m_s d2) ∧ f_X5_laysBack N d2 = some d3 ∧ SR a (m_s d3) ∧ KR m d3 := by
  obtain ⟨t, t1, t2, t3⟩ := x_try (N := N) hI hV
  obtain ⟨v', v1, v2, v3⟩ := v_years hN hI t2 hy h100
  obtain ⟨d1, a1, a2, a3, a4, a5⟩ := m_lay hN hI hS
  obtain ⟨d2, b1, b2, b3, b4⟩ := m_yrs hN hI a2 (a4.2.2.2.2.2.2.2.2.trans hA) hy h100
  obtain ⟨d3, c1, c2, c3, c4⟩ := m_unlay hN hI (m := d2) (by rw [b4]; exact a3)
  exact ⟨t, v', d1, d2, d3, t1, v1, v2, (congrFun v3.1 12).trans t3, v3, a1, b1, b2, c1, c2, (a4.tr b3).tr c3⟩
theorem op_on (hN : 5000 ≤ N) (h : Sys x m) (p1 p2 : Int32) : Ok (f_X4_on N p1 p2 x) (f_X5_on N p1 p2 m) := by
  have hh := h
  obtain ⟨a, hI, hS, hV, hR⟩ := h
  have hn := hI.1
  have bad : Ok (bd2 (f_X4_tell N (-1000000001) x) fun r d => some (r, d)) (bd2 (f_X5_finds N (-1000000001) m) fun r d => some (r, d)) := ok_tell hh _ 0 (by decide) (by decide)
  have late : Ok (bd2 (f_X4_tell N (-1000000005) x) fun r d => some (r, d)) (bd2 (f_X5_finds N (-1000000005) m) fun r d => some (r, d)) := ok_tell hh _ 4 (by decide) (by decide)
  simp only [f_X4_on, f_X5_on, f_X5_on_J18, x_one hI hV, m_one hI hS, x_in, some_bind', if10]
  by_cases c1 : isP (a_n a) p1
  · simp only [if_pos c1]
    by_cases c2 : 0 ≤ p2 ∧ p2 ≤ 100
    · simp only [if_pos c2]
      obtain ⟨i, hi, rfl⟩ := isP_nat hn c1
      obtain ⟨n, hn', rfl⟩ := in_nat (m := 100) (by decide) c2
      rw [x_late hI hV hn', some_bind', if01, m_bars_in hI hS hn', some_bind']
      by_cases c3 : a_y a + n ≤ 9999
      · rw [if_pos c3, if_pos c3, if_pos rfl]
        obtain ⟨t, v', d1, d2, d3, t1, v1, v2, v3, -, a1, b1, b2, e1, e2, e3⟩ := try_years hN hI hS hV hR.2.2.2.2.2 c3 hn'
        obtain ⟨y1, y2, -⟩ := years_ok hI n c3
        rw [t1, some_bind', lt_eq, xt_get, v1, bd2_some, lt_eq, xt_set, xt_get, rd_nI (by omega) (by decide), some_bind', a1, some_bind', b1, bd2_some, m_gd y2 b2 (by omega), some_bind', e1, some_bind', (v2.2.2.2.2.2.2 i (by omega)).2.2.1]
        exact ok_go hR _ (KX.t x v' v3) e3 hI e2 hV
      · rw [if_neg c3, if_neg c3, if_neg (by decide)]
        exact late
    · simp only [if_neg c2]
      rw [m_bars_out c2, some_bind', if_neg (by decide)]
      exact bad
  · simp only [if_neg c1]
    rw [if_neg (by decide)]
    exact bad
theorem op_living (hN : 5000 ≤ N) (h : Sys x m) (p1 : Int32) : Ok (f_X4_living N p1 x) (f_X5_living N p1 m) := by
  have hh := h
  obtain ⟨a, hI, hS, hV, hR⟩ := h
  have hn := hI.1
  have bad : Ok (bd2 (f_X4_tell N (-1000000001) x) fun r d => some (r, d)) (bd2 (f_X5_finds N (-1000000001) m) fun r d => some (r, d)) := ok_tell hh _ 0 (by decide) (by decide)
  have late : Ok (bd2 (f_X4_tell N (-1000000005) x) fun r d => some (r, d)) (bd2 (f_X5_finds N (-1000000005) m) fun r d => some (r, d)) := ok_tell hh _ 4 (by decide) (by decide)
  simp only [f_X4_living, f_X5_living, x_in, some_bind', if10]
  by_cases c2 : 0 ≤ p1 ∧ p1 ≤ 100
  · simp only [if_pos c2]
    obtain ⟨n, hn', rfl⟩ := in_nat (m := 100) (by decide) c2
    rw [x_late hI hV hn', some_bind', if01, m_bars_in hI hS hn', some_bind']
    by_cases c3 : a_y a + n ≤ 9999
    · rw [if_pos c3, if_pos c3, if_pos rfl]
      obtain ⟨t, v', d1, d2, d3, t1, v1, v2, v3, -, a1, b1, b2, e1, e2, e3⟩ := try_years hN hI hS hV hR.2.2.2.2.2 c3 hn'
      obtain ⟨y1, y2, -⟩ := years_ok hI n c3
      rw [t1, some_bind', lt_eq, xt_get, v1, bd2_some, lt_eq, xt_set, xt_get, a1, some_bind', b1, bd2_some, m_livingSet hN y2 b2, some_bind', e1, some_bind', v_livingSet y2 v2]
      exact ok_go hR _ (KX.t x v' v3) e3 hI e2 hV
    · rw [if_neg c3, if_neg c3, if_neg (by decide), some_bind']
      exact late
  · simp only [if_neg c2]
    rw [m_bars_out c2, some_bind', if_neg (by decide), some_bind']
    exact bad
theorem op_rich (hN : 5000 ≤ N) (h : Sys x m) (p1 : Int32) : Ok (f_X4_rich N p1 x) (f_X5_rich N p1 m) := by
  have hh := h
  obtain ⟨a, hI, hS, hV, hR⟩ := h
  have hn := hI.1
  have bad : Ok (bd2 (f_X4_tell N (-1000000001) x) fun r d => some (r, d)) (bd2 (f_X5_finds N (-1000000001) m) fun r d => some (r, d)) := ok_tell hh _ 0 (by decide) (by decide)
  have late : Ok (bd2 (f_X4_tell N (-1000000005) x) fun r d => some (r, d)) (bd2 (f_X5_finds N (-1000000005) m) fun r d => some (r, d)) := ok_tell hh _ 4 (by decide) (by decide)
  simp only [f_X4_rich, f_X5_rich, x_in, some_bind', if10]
  by_cases c2 : 0 ≤ p1 ∧ p1 ≤ 100
  · simp only [if_pos c2]
    obtain ⟨n, hn', rfl⟩ := in_nat (m := 100) (by decide) c2
    rw [x_late hI hV hn', some_bind', if01, m_bars_in hI hS hn', some_bind']
    by_cases c3 : a_y a + n ≤ 9999
    · rw [if_pos c3, if_pos c3, if_pos rfl]
      obtain ⟨t, v', d1, d2, d3, t1, v1, v2, v3, -, a1, b1, b2, e1, e2, e3⟩ := try_years hN hI hS hV hR.2.2.2.2.2 c3 hn'
      obtain ⟨y1, y2, -⟩ := years_ok hI n c3
      have r1 : f_X3_richestBut N (-1) v' = some (enc (rb (years a n) 0 (a_n (years a n)))) := v_rich hN y2 v2 (i := 0) (by omega)
      have r2 : f_X5_richestBut N (-1) d2 = some (enc (rb (years a n) 0 (a_n (years a n)))) := m_rich hN y2 b2 (i := 0) (by omega)
      have rl := rb_le (years a n) 0 (a_n (years a n))
      rw [t1, some_bind', lt_eq, xt_get, v1, bd2_some, lt_eq, xt_set, xt_get, r1, some_bind', a1, some_bind', b1, bd2_some, r2, some_bind', e1, some_bind']
      by_cases c4 : rb (years a n) 0 (a_n (years a n)) = 0
      · rw [if_pos (by rw [enc_m1 (by omega)]; exact c4), if_neg (by rw [enc_nn (by omega)]; exact fun z => z c4)]
        exact bad_go hR (KX.t x v' v3) e3 hI e2 hV _ 3 (by decide) (by decide)
      · rw [if_neg (by rw [enc_m1 (by omega)]; exact c4), if_pos (by rw [enc_nn (by omega)]; exact c4)]
        exact ok_go hR _ (KX.t x v' v3) e3 hI e2 hV
    · rw [if_neg c3, if_neg c3, if_neg (by decide), some_bind']
      exact late
  · simp only [if_neg c2]
    rw [m_bars_out c2, some_bind', if_neg (by decide), some_bind']
    exact bad
theorem m_when_L (hN : 5000 ≤ N) (hI : Inv a) (hy : a_y a + 100 ≤ 9999) {i : Nat} (hi : i < a_n a) : ∀ (t k f : Nat) (d : MD), k + t = 100 → t + 1 < f → SR (years a k) (m_s d) → m_asked d = -1 → a_lv (years a k) i = true →
    ∃ d' r, f_X5_when_L51 N f (nI i) (-1) (nI (k + 1)) d = f_X5_when_J87 N r d' ∧ KM d d' ∧ ((r = -1 ∧ a_lv (years a 100) i = true) ∨ ∃ q, q < 100 ∧ dcond (yearA (years a q)) i ∧ r = nI (q + 1)) := by
  intro t
  induction t with
  | zero =>
    intro k f d h1 h2 hS hA hl
    obtain ⟨f', rfl⟩ : ∃ f', f = f' + 1 := ⟨f - 1, by omega⟩
    obtain rfl : k = 100 := by omega
    rw [f_X5_when_L51, if_pos (show (100 : Int32) < nI (100 + 1) from nI_lt (show 100 < 101 by decide) (by decide))]
    exact ⟨d, -1, rfl, KM.rf d, Or.inl ⟨rfl, hl⟩⟩
  | succ t ih =>
    intro k f d h1 h2 hS hA hl
    obtain ⟨f', rfl⟩ : ∃ f', f = f' + 1 := ⟨f - 1, by omega⟩
    obtain ⟨y1, y2, y3⟩ := years_ok hI k (by omega)
    obtain ⟨z1, z2, z3⟩ := years_ok hI (k + 1) (by omega)
    obtain ⟨d1, q1, q2, q3, q4⟩ := m_year hN y2 hS (q := 0) (by omega) hA
    have q2 : SR (years a (k + 1)) (m_s d1) := q2
    rw [f_X5_when_L51, if_neg (show ¬ (100 : Int32) < nI (k + 1) from nI_nlt (show k + 1 ≤ 100 by omega) (by decide)), if_neg (by decide), q1, bd2_some, m_lives z2 q2 (by omega), some_bind', if10]
    cases c : a_lv (years a (k + 1)) i with
    | false =>
      have hd : dcond (yearA (years a k)) i := by
        apply Classical.byContradiction
        intro nd
        have w := (year_lv (a := years a k) (i := i) (by omega)).2 nd
        rw [hl] at w
        have w : a_lv (years a (k + 1)) i = true := w
        rw [c] at w
        cases w
      obtain ⟨f2, rfl⟩ : ∃ f2, f' = f2 + 1 := ⟨f' - 1, by omega⟩
      rw [if_neg (by decide), lt_eq, nI_1, f_X5_when_L51]
      refine ⟨d1, nI (k + 1), ?_, q4, Or.inr ⟨k, by omega, hd, rfl⟩⟩
      rw [if_pos (show (0 : Int32) ≤ nI (k + 1) from nI_pos' (by omega))]
      split <;> rfl
    | true =>
      rw [if_pos rfl, lt_eq, nI_1]
      obtain ⟨d', r, w1, w2, w3⟩ := ih (k + 1) f' d1 (by omega) (by omega) q2 (q4.2.2.2.2.2.2.2.2.2.trans hA) c
      exact ⟨d', r, w1, q4.tr w2, w3⟩
theorem dead100 (hI : Inv a) (hy : a_y a + 100 ≤ 9999) {i q : Nat} (hi : i < a_n a) (hq : q < 100) (hd : dcond (yearA (years a q)) i) : a_lv (years a 100) i = false := by
  obtain ⟨y1, y2, y3⟩ := years_ok hI q (by omega)
  have w : a_lv (years a (q + 1)) i = false := (year_lv (a := years a q) (i := i) (by omega)).1 hd
  have z := (years_dead hI hi w (100 - (q + 1)) (by omega)).1
  rw [show q + 1 + (100 - (q + 1)) = 100 by omega] at z
  exact z
theorem op_when (hN : 5000 ≤ N) (h : Sys x m) (p1 : Int32) : Ok (f_X4_when N p1 x) (f_X5_when N p1 m) := by
  have hh := h
  obtain ⟨a, hI, hS, hV, hR⟩ := h
  have hn := hI.1
  have bad : Ok (bd2 (f_X4_tell N (-1000000001) x) fun r d => some (r, d)) (bd2 (f_X5_finds N (-1000000001) m) fun r d => some (r, d)) := ok_tell hh _ 0 (by decide) (by decide)
  have late : Ok (bd2 (f_X4_tell N (-1000000005) x) fun r d => some (r, d)) (bd2 (f_X5_finds N (-1000000005) m) fun r d => some (r, d)) := ok_tell hh _ 4 (by decide) (by decide)
  simp only [f_X4_when, f_X5_when, x_one hI hV, m_one hI hS, some_bind', if10]
  by_cases c1 : isP (a_n a) p1
  · simp only [if_pos c1]
    obtain ⟨i, hi, rfl⟩ := isP_nat hn c1
    have x1 : f_X4_isTooLate N 100 x = some (if a_y a + 100 ≤ 9999 then 0 else 1) := x_late hI hV (n := 100) (by decide)
    have m1 : f_X5_isFar N 100 m = some (if a_y a + 100 ≤ 9999 then 0 else 1) := m_far hI hS (n := 100) (by decide)
    rw [x1, some_bind', if01, m1, some_bind', if01]
    by_cases c2 : a_y a + 100 ≤ 9999
    · rw [if_pos c2, if_pos c2, v_lives hI hV hi, some_bind', if10]
      obtain ⟨d1, a1, a2, a3, a4, a5⟩ := m_lay hN hI hS
      rw [a1, some_bind', m_lives hI a2 hi, some_bind', if10]
      by_cases c3 : a_lv a i = true
      · rw [if_pos c3, if_pos c3]
        obtain ⟨t, v', -, -, -, t1, v1, v2, v3, v4, -⟩ := try_years hN hI hS hV hR.2.2.2.2.2 c2 (Nat.le_refl 100)
        have v1 : f_X3_goYears N 100 t = some (nI (yearsD a 100), v') := v1
        obtain ⟨y1, y2, -⟩ := years_ok hI 100 c2
        obtain ⟨d', r, w1, w2, w3⟩ := m_when_L hN hI c2 hi 100 0 N d1 (by omega) (by omega) a2 (a4.2.2.2.2.2.2.2.2.trans hR.2.2.2.2.2) c3
        have w1 : f_X5_when_L51 N N (nI i) (-1) 1 d1 = f_X5_when_J87 N r d' := w1
        obtain ⟨d3, e1, e2, e3, e4⟩ := m_unlay hN hI (m := d') (by rw [w2.2.1]; exact a3)
        rw [t1, some_bind', lt_eq, xt_get, v1, bd2_some, lt_eq, xt_set, xt_get, v_lives y2 v2 (by omega), some_bind', if10, w1]
        unfold f_X5_when_J87
        rw [e1, some_bind']
        rcases w3 with ⟨rfl, l⟩ | ⟨q, hq, hd, rfl⟩
        · rw [if_pos l, if_neg (by decide)]
          exact bad_go hR (KX.t x v' v3) ((a4.tr w2.kr).tr e3) hI e2 hV _ 3 (by decide) (by decide)
        · have l := dead100 hI c2 hi hq hd
          have dy := (v4.2 i hi q hq hd).2
          have ey : v_year (x_valley (x_set_trial x v')) = nI (a_y a) := hV.2.1
          rw [if_neg (by rw [l]; decide), rd_nI (by omega) (by decide), some_bind', dy, ey, pk_sub (by omega), show a_y a + q + 1 - a_y a = q + 1 by omega, if_pos (nI_pos' (by omega))]
          exact ok_go hR _ (KX.t x v' v3) ((a4.tr w2.kr).tr e3) hI e2 hV
      · rw [if_neg c3, if_neg c3]
        obtain ⟨f', hf⟩ : ∃ f', N = f' + 1 := ⟨N - 1, by omega⟩
        have w1 : f_X5_when_L51 N N (nI i) 0 1 d1 = f_X5_when_J87 N 0 d1 := by
          have g : ∀ g, f_X5_when_L51 N (g + 1) (nI i) 0 1 d1 = f_X5_when_J87 N 0 d1 := fun g => by
            rw [f_X5_when_L51, if_neg (by decide), if_pos (by decide)]
          have := g f'
          rw [← hf] at this
          exact this
        obtain ⟨d3, e1, e2, e3, e4⟩ := m_unlay hN hI (m := d1) a3
        rw [w1]
        unfold f_X5_when_J87
        rw [e1, some_bind', if_pos (by decide)]
        exact ok_go hR _ (KX.rf x) (a4.tr e3) hI e2 hV
    · rw [if_neg c2, if_neg c2]
      exact late
  · simp only [if_neg c1]; exact bad
theorem enc_m2 {o : Nat} (ho : o < 2147483648) : ¬ enc o = -2 := by
  cases o with
  | zero => decide
  | succ o =>
    rw [enc_s]
    intro e
    have h := congrArg Int32.toInt e
    rw [nI_toInt (by omega)] at h
    have h2 : (-2 : Int32).toInt = -2 := by decide
    omega
theorem m_gets_L (hN : 5000 ≤ N) (hI : Inv a) (hy : a_y a + 100 ≤ 9999) {i : Nat} (hi : i < a_n a) : ∀ (t k f : Nat) (d : MD), k + t = 100 → t + 1 < f → SR (years a k) (m_s d) → m_asked d = nI i → m_noted d = -2 → a_lv (years a k) i = true →
    ∃ d', f_X5_gets_L56 N f (nI (k + 1)) d = f_X5_gets_J82 N d' ∧ KM d d' ∧ ((m_noted d' = -2 ∧ a_lv (years a 100) i = true) ∨ ∃ q, q < 100 ∧ dcond (yearA (years a q)) i ∧ m_noted d' = enc (heirAt (years a q) i)) := by
  have hn := hI.1
  intro t
  induction t with
  | zero =>
    intro k f d h1 h2 hS hA hN' hl
    obtain ⟨f', rfl⟩ : ∃ f', f = f' + 1 := ⟨f - 1, by omega⟩
    obtain rfl : k = 100 := by omega
    rw [f_X5_gets_L56, if_pos (show (100 : Int32) < nI (100 + 1) from nI_lt (show 100 < 101 by decide) (by decide))]
    exact ⟨d, rfl, KM.rf d, Or.inl ⟨hN', hl⟩⟩
  | succ t ih =>
    intro k f d h1 h2 hS hA hN' hl
    obtain ⟨f', rfl⟩ : ∃ f', f = f' + 1 := ⟨f - 1, by omega⟩
    obtain ⟨y1, y2, y3⟩ := years_ok hI k (by omega)
    obtain ⟨d1, q1, q2, q3, q4⟩ := m_year hN y2 hS (q := i + 1) (by omega) (by rw [enc_s]; exact hA)
    have q2 : SR (years a (k + 1)) (m_s d1) := q2
    rw [f_X5_gets_L56, if_neg (show ¬ (100 : Int32) < nI (k + 1) from nI_nlt (show k + 1 ≤ 100 by omega) (by decide)), if_pos hN', q1, bd2_some, lt_eq, nI_1]
    by_cases hd : dcond (yearA (years a k)) i
    · rw [ntd_hit _ 0 _ (by omega) (by omega) hd] at q3
      have hl' := heir_le (dead (deaths (yearA (years a k)) i) i) i
      have en : a_n (dead (deaths (yearA (years a k)) i) i) ≤ 12 := by
        have e1 : a_n (dead (deaths (yearA (years a k)) i) i) = a_n (deaths (yearA (years a k)) i) := rfl
        have yy := yearA_ok y2
        rw [e1, (deaths_ok yy.2.1 i).1, yy.1, y1]
        exact hn
      obtain ⟨f2, rfl⟩ : ∃ f2, f' = f2 + 1 := ⟨f' - 1, by omega⟩
      refine ⟨d1, ?_, q4, Or.inr ⟨k, by omega, hd, q3⟩⟩
      rw [f_X5_gets_L56, if_neg (show ¬ m_noted d1 = -2 by rw [q3]; exact enc_m2 (by omega))]
      split <;> rfl
    · rw [ntd_miss hd] at q3
      have w := (year_lv (a := years a k) (i := i) (by omega)).2 hd
      rw [hl] at w
      obtain ⟨d', w1, w2, w3⟩ := ih (k + 1) f' d1 (by omega) (by omega) q2 (q4.2.2.2.2.2.2.2.2.2.trans hA) (q3.trans hN') w
      exact ⟨d', w1, q4.tr w2, w3⟩
theorem op_gets (hN : 5000 ≤ N) (h : Sys x m) (p1 : Int32) : Ok (f_X4_gets N p1 x) (f_X5_gets N p1 m) := by
  have hh := h
  obtain ⟨a, hI, hS, hV, hR⟩ := h
  have hn := hI.1
  have bad : Ok (bd2 (f_X4_tell N (-1000000001) x) fun r d => some (r, d)) (bd2 (f_X5_finds N (-1000000001) m) fun r d => some (r, d)) := ok_tell hh _ 0 (by decide) (by decide)
  have late : Ok (bd2 (f_X4_tell N (-1000000005) x) fun r d => some (r, d)) (bd2 (f_X5_finds N (-1000000005) m) fun r d => some (r, d)) := ok_tell hh _ 4 (by decide) (by decide)
  simp only [f_X4_gets, f_X5_gets, x_one hI hV, m_one hI hS, some_bind', if10]
  by_cases c1 : isP (a_n a) p1
  · simp only [if_pos c1]
    obtain ⟨i, hi, rfl⟩ := isP_nat hn c1
    have x1 : f_X4_isTooLate N 100 x = some (if a_y a + 100 ≤ 9999 then 0 else 1) := x_late hI hV (n := 100) (by decide)
    have m1 : f_X5_isFar N 100 m = some (if a_y a + 100 ≤ 9999 then 0 else 1) := m_far hI hS (n := 100) (by decide)
    rw [v_lives hI hV hi, some_bind', if10, m_lives hI hS hi, some_bind', if10]
    by_cases c3 : a_lv a i = true
    · rw [if_pos c3, if_pos c3, x1, some_bind', if01, m1, some_bind', if01]
      by_cases c2 : a_y a + 100 ≤ 9999
      · rw [if_pos c2, if_pos c2]
        obtain ⟨d1, a1, a2, a3, a4, a5⟩ := m_lay hN hI hS
        rw [a1, some_bind', lt_eq, lt_eq]
        obtain ⟨t, v', -, -, -, t1, v1, v2, v3, v4, -⟩ := try_years hN hI hS hV hR.2.2.2.2.2 c2 (Nat.le_refl 100)
        have v1 : f_X3_goYears N 100 t = some (nI (yearsD a 100), v') := v1
        obtain ⟨y1, y2, -⟩ := years_ok hI 100 c2
        have g1 : m_s (m_set_noted (m_set_asked d1 (nI i)) (-2)) = m_s d1 := rfl
        have g2 : m_close (m_set_noted (m_set_asked d1 (nI i)) (-2)) = m_close d1 := rfl
        have g3 : m_asked (m_set_noted (m_set_asked d1 (nI i)) (-2)) = nI i := rfl
        have g4 : m_noted (m_set_noted (m_set_asked d1 (nI i)) (-2)) = -2 := rfl
        have g5 : m_kept (m_set_noted (m_set_asked d1 (nI i)) (-2)) = m_kept d1 ∧ m_isKept (m_set_noted (m_set_asked d1 (nI i)) (-2)) = m_isKept d1 ∧ m_findings (m_set_noted (m_set_asked d1 (nI i)) (-2)) = m_findings d1 ∧ m_tape (m_set_noted (m_set_asked d1 (nI i)) (-2)) = m_tape d1 ∧ m_taped (m_set_noted (m_set_asked d1 (nI i)) (-2)) = m_taped d1 ∧ m_bitsOf (m_set_noted (m_set_asked d1 (nI i)) (-2)) = m_bitsOf d1 ∧ m_sizes (m_set_noted (m_set_asked d1 (nI i)) (-2)) = m_sizes d1 ∧ m_numbers (m_set_noted (m_set_asked d1 (nI i)) (-2)) = m_numbers d1 := ⟨rfl, rfl, rfl, rfl, rfl, rfl, rfl, rfl⟩
        generalize m_set_noted (m_set_asked d1 (nI i)) (-2) = d2 at g1 g2 g3 g4 g5 ⊢
        obtain ⟨d', w1, w2, w3⟩ := m_gets_L hN hI c2 hi 100 0 N d2 (by omega) (by omega) (by rw [g1]; exact a2) g3 g4 c3
        have w1 : f_X5_gets_L56 N N 1 d2 = f_X5_gets_J82 N d' := w1
        have s1 : m_close (m_set_asked d' (-1)) = m_close d' := rfl
        obtain ⟨d3, e1, e2, e3, e4⟩ := m_unlay hN hI (m := m_set_asked d' (-1)) (by rw [s1, w2.2.1, g2]; exact a3)
        have nt : m_noted d3 = m_noted d' := by
          obtain ⟨s', u1, u2⟩ := m_back hN (m_set_asked d' (-1))
          have u3 := e1.symm.trans u1
          rw [Option.some.inj u3]
          rfl
        have kr : KR m d3 := by
          obtain ⟨k1, k2, k3, k4, k5, k6, k7, k8, k9⟩ := a4
          obtain ⟨n1, n2, n3, n4, n5, n6, n7, n8⟩ := g5
          obtain ⟨w1, -, w3, w4, w5, w6, w7, w8, w9, -⟩ := w2
          obtain ⟨r1, r2, r3, r4, r5, r6, r7, r8, r9⟩ := e3
          exact ⟨r1.trans (w1.trans (n1.trans k1)), r2.trans (w3.trans (n2.trans k2)), r3.trans (w4.trans (n3.trans k3)), r4.trans (w5.trans (n4.trans k4)), r5.trans (w6.trans (n5.trans k5)), r6.trans (w7.trans (n6.trans k6)), r7.trans (w8.trans (n7.trans k7)), r8.trans (w9.trans (n8.trans k8)), r9.trans hR.2.2.2.2.2.symm⟩
        rw [t1, some_bind', lt_eq, xt_get, v1, bd2_some, lt_eq, xt_set, xt_get, v_lives y2 v2 (by omega), some_bind', if10, w1]
        unfold f_X5_gets_J82
        rw [lt_eq, e1, some_bind', nt]
        rcases w3 with ⟨l1, l⟩ | ⟨q, hq, hd, l1⟩
        · rw [if_pos l, if_pos l1]
          exact bad_go hR (KX.t x v' v3) kr hI e2 hV _ 3 (by decide) (by decide)
        · have l := dead100 hI c2 hi hq hd
          have gb := (v4.2 i hi q hq hd).1
          obtain ⟨z1, z2, z3⟩ := years_ok hI q (by omega)
          have hl' : heirAt (years a q) i ≤ 12 := by
            unfold heirAt
            refine Nat.le_trans (heir_le _ _) ?_
            have ee : a_n (dead (deaths (yearA (years a q)) i) i) = a_n (deaths (yearA (years a q)) i) := rfl
            have yy := yearA_ok z2
            rw [ee, (deaths_ok yy.2.1 i).1, yy.1, z1]
            exact hn
          rw [if_neg (by rw [l]; decide), rd_nI (by omega) (by decide), some_bind', gb, l1, if_neg (enc_m2 (by omega))]
          exact ok_go hR _ (KX.t x v' v3) kr hI e2 hV
      · rw [if_neg c2, if_neg c2]
        exact late
    · rw [if_neg c3, if_neg c3]
      exact late
  · simp only [if_neg c1]; exact bad
end OPS4
