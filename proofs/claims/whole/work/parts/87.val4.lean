/-! ===== THE CLASS: years ===== -/
theorem alter_lv (a : AS) (i : Nat) : a_lv (alter a i) = a_lv a := by unfold alter; split <;> rfl
theorem alters_lv (a : AS) : ∀ k, a_lv (alters a k) = a_lv a
  | 0 => rfl
  | k + 1 => by
    rw [alters]
    split
    · exact (alter_lv _ _).trans (alters_lv a k)
    · exact alters_lv a k
theorem olds_lv (a : AS) : ∀ k, a_lv (olds a k) = a_lv a
  | 0 => rfl
  | k + 1 => by
    rw [olds]
    split
    · exact olds_lv a k
    · exact olds_lv a k
theorem yearA_lv (a : AS) : a_lv (yearA a) = a_lv a := (olds_lv _ _).trans (alters_lv _ _)
theorem die_lv (a : AS) (i : Nat) : a_lv (die a i) = va_up (a_lv a) i false := by
  unfold die
  split
  · rfl
  · split <;> rfl
theorem deaths_lv_hi (b : AS) (i : Nat) : ∀ k, k ≤ i → a_lv (deaths b k) i = a_lv b i
  | 0, _ => rfl
  | k + 1, h => by
    have ih := deaths_lv_hi b i k (by omega)
    rw [deaths]
    split
    · rw [die_lv, va_up_n _ _ (by omega), ih]
    · exact ih
theorem deaths_lv_lo (b : AS) (i : Nat) : ∀ k, i < k → (dcond b i → a_lv (deaths b k) i = false) ∧ (¬ dcond b i → a_lv (deaths b k) i = a_lv b i)
  | 0, h => absurd h (by omega)
  | k + 1, h => by
    by_cases c : i = k
    · subst c
      rw [deaths]
      constructor
      · intro d
        have d' : a_lv (deaths b i) i = true ∧ a_tm (deaths b i) i ≤ a_ag (deaths b i) i := d
        rw [if_pos d', die_lv, va_up_s]
      · intro d
        have d' : ¬ (a_lv (deaths b i) i = true ∧ a_tm (deaths b i) i ≤ a_ag (deaths b i) i) := d
        rw [if_neg d']
        exact deaths_lv_hi b i i (Nat.le_refl _)
    · have ih := deaths_lv_lo b i k (by omega)
      rw [deaths]
      split
      · rw [die_lv, va_up_n _ _ c]; exact ih
      · exact ih
theorem dcond_lv {b : AS} {i : Nat} (h : dcond b i) : a_lv b i = true := by rw [← deaths_lv_hi b i i (Nat.le_refl _)]; exact h.1
/-- who dies in a year is dead behind it; who doesn't stays as it is -/
theorem year_lv {a : AS} {i : Nat} (hi : i < a_n a) : (dcond (yearA a) i → a_lv (year a) i = false) ∧ (¬ dcond (yearA a) i → a_lv (year a) i = a_lv a i) := by
  obtain ⟨h1, h2⟩ := deaths_lv_lo (yearA a) i (a_n a) hi
  refine ⟨fun d => h1 d, fun d => ?_⟩
  have z := h2 d
  rw [yearA_lv] at z
  exact z
theorem years_dead {a : AS} (hI : Inv a) {i : Nat} (hi : i < a_n a) {k : Nat} (hd : a_lv (years a k) i = false) : ∀ j, a_y a + (k + j) ≤ 9999 → a_lv (years a (k + j)) i = false ∧ ¬ dcond (yearA (years a (k + j))) i
  | 0, _ => ⟨hd, fun d => by have := dcond_lv d; rw [yearA_lv, Nat.add_zero, hd] at this; cases this⟩
  | j + 1, h => by
    obtain ⟨h1, h2⟩ := years_dead hI hi hd j (by omega)
    obtain ⟨n1, -, -⟩ := years_ok hI (k + j) (by omega)
    have z := (year_lv (a := years a (k + j)) (i := i) (by omega)).2 h2
    have e : a_lv (years a (k + (j + 1))) i = false := by
      show a_lv (year (years a (k + j))) i = false
      rw [z]; exact h1
    exact ⟨e, fun d => by have := dcond_lv d; rw [yearA_lv, e] at this; cases this⟩
/-- what a year leaves of who got it, and when -/
def YT (b : AS) (lo n y : Nat) (v v' : VD) : Prop := v_children v' = v_children v ∧ ∀ i, (lo ≤ i ∧ i < n ∧ dcond b i → v_gotBy v' i = enc (heir (dead (deaths b i) i) i) ∧ v_deathYears v' i = nI (y + 1)) ∧ (¬ (lo ≤ i ∧ i < n ∧ dcond b i) → v_gotBy v' i = v_gotBy v i ∧ v_deathYears v' i = v_deathYears v i)
section VAL4
variable {N : Nat} {a : AS} {K4 : Int32 → Int32 → Int32 → VD → Option (Int32 × VD)} {a1 a2 a3 : Int32}
theorem v_alters_L (hN : 5000 ≤ N) (hI : Inv a) : ∀ (t k n : Nat) (v : VD), k + t = a_n a → t < n → VR (alters a k) v →
    ∃ v', f_X3_goYears_L12 N K4 n a1 a2 a3 (nI k) v = f_X3_goYears_L51 N K4 N a1 a2 a3 (0 : Int32) v' ∧ VR (alters a (a_n a)) v' ∧ KE v v' := by
  have hn := hI.1
  intro t
  induction t with
  | zero =>
    intro k n v h1 h2 hV
    obtain ⟨n', rfl⟩ : ∃ n', n = n' + 1 := ⟨n - 1, by omega⟩
    obtain rfl : k = a_n a := by omega
    obtain ⟨e1, e2, -⟩ := alters_ok hI (a_n a) (by omega)
    rw [f_X3_goYears_L12, hV.1, e1, if_pos (nI_le (Nat.le_refl _) (by omega))]
    exact ⟨v, rfl, hV, KE.rf v⟩
  | succ t ih =>
    intro k n v h1 h2 hV
    obtain ⟨n', rfl⟩ : ∃ n', n = n' + 1 := ⟨n - 1, by omega⟩
    obtain ⟨e1, e2, -⟩ := alters_ok hI k (by omega)
    have hk : k < a_n (alters a k) := by omega
    rw [f_X3_goYears_L12, hV.1, if_neg (nI_ge hk (by omega)), v_lives e2 hV hk, some_bind']
    cases c : a_lv (alters a k) k with
    | false =>
      rw [if_pos (by rfl), lt_eq, nI_1]
      exact ih (k + 1) n' v (by omega) (by omega) (by rw [alters, c, if_neg (by decide)]; exact hV)
    | true =>
      rw [if_neg (by decide), v_plan hN e2 hV hk, some_bind']
      obtain ⟨v1, q1, q2, q3⟩ := v_carry hN e2 hV hk
      rw [q1, some_bind', lt_eq, nI_1]
      obtain ⟨v2, r1, r2, r3⟩ := ih (k + 1) n' v1 (by omega) (by omega) (by rw [alters, c, if_pos rfl]; exact q2)
      exact ⟨v2, r1, r2, q3.tr r3⟩
theorem v_olds_L (hI : Inv a) : ∀ (t k n : Nat) (v : VD), k + t = a_n a → t < n → VR (olds a k) v →
    ∃ v', f_X3_goYears_L51 N K4 n a1 a2 a3 (nI k) v = f_X3_goYears_L99 N K4 N a1 a2 a3 (0 : Int32) v' ∧ VR (olds a (a_n a)) v' ∧ KE v v' := by
  have hn := hI.1
  intro t
  induction t with
  | zero =>
    intro k n v h1 h2 hV
    obtain ⟨n', rfl⟩ : ∃ n', n = n' + 1 := ⟨n - 1, by omega⟩
    obtain rfl : k = a_n a := by omega
    obtain ⟨e1, e2, -⟩ := olds_ok hI (a_n a)
    rw [f_X3_goYears_L51, hV.1, e1, if_pos (nI_le (Nat.le_refl _) (by omega))]
    exact ⟨v, rfl, hV, KE.rf v⟩
  | succ t ih =>
    intro k n v h1 h2 hV
    obtain ⟨n', rfl⟩ : ∃ n', n = n' + 1 := ⟨n - 1, by omega⟩
    obtain ⟨e1, e2, -⟩ := olds_ok hI k
    have hk : k < a_n (olds a k) := by omega
    have b1 := (e2.2.2.2.2 k hk).2.1
    rw [f_X3_goYears_L51, hV.1, if_neg (nI_ge hk (by omega)), v_lives e2 hV hk, some_bind']
    cases c : a_lv (olds a k) k with
    | false =>
      rw [if_pos (by rfl), lt_eq, nI_1]
      exact ih (k + 1) n' v (by omega) (by omega) (by rw [olds, if_neg (fun z => by rw [c] at z; cases z.1)]; exact hV)
    | true =>
      rw [if_neg (by decide), rd_nI (by omega) (by decide), some_bind', ck_nI (by omega) (by decide), some_bind', lt_eq, lt_eq, nI_1, nI_clamp (by omega), (hV.2.2.2.2.2.2 k hk).2.1, nI_1]
      by_cases c2 : a_ag (olds a k) k < 120
      · have e : (if nI (a_ag (olds a k) k + 1) < (120 : Int32) then nI (a_ag (olds a k) k + 1) else (120 : Int32)) = nI (a_ag (olds a k) k + 1) := by
          by_cases c3 : a_ag (olds a k) k + 1 < 120
          · rw [if_pos (by rw [lit_nI 120, nI_lt_iff (by omega) (by decide)]; exact c3)]
          · rw [if_neg (by rw [lit_nI 120, nI_lt_iff (by omega) (by decide)]; exact c3), lit_nI 120]; congr 1; omega
        rw [e]
        obtain ⟨v2, r1, r2, r3⟩ := ih (k + 1) n' (v_set_ages v (upd (v_ages v) k (nI (a_ag (olds a k) k + 1)))) (by omega) (by omega) (by rw [olds, if_pos ⟨c, c2⟩]; exact hV.ag _)
        exact ⟨v2, r1, r2, r3⟩
      · have e : (if nI (a_ag (olds a k) k + 1) < (120 : Int32) then nI (a_ag (olds a k) k + 1) else (120 : Int32)) = nI (a_ag (olds a k) k) := by
          rw [if_neg (by rw [lit_nI 120, nI_lt_iff (by omega) (by decide)]; omega), lit_nI 120]; congr 1; omega
        rw [e]
        have z := hV.ag (i := k) (a_ag (olds a k) k)
        rw [va_up_id, as_ag_id] at z
        obtain ⟨v2, r1, r2, r3⟩ := ih (k + 1) n' (v_set_ages v (upd (v_ages v) k (nI (a_ag (olds a k) k)))) (by omega) (by omega) (by rw [olds, if_neg (fun z => c2 z.2)]; exact z)
        exact ⟨v2, r1, r2, r3⟩
theorem v_deaths_L (hN : 5000 ≤ N) (hI : Inv a) (dd : Nat) : ∀ (t k n : Nat) (v : VD), k + t = a_n a → t < n → VR (deaths a k) v →
    ∃ v', f_X3_goYears_L99 N K4 n a1 (nI (dd + ndead a k)) a3 (nI k) v = K4 a1 (nI (dd + ndead a (a_n a))) (a3 + 1) v' ∧ VR (a_set_y (deaths a (a_n a)) (a_y a + 1)) v' ∧ YT a k (a_n a) (a_y a) v v' := by
  have hn := hI.1
  intro t
  induction t with
  | zero =>
    intro k n v h1 h2 hV
    obtain ⟨n', rfl⟩ : ∃ n', n = n' + 1 := ⟨n - 1, by omega⟩
    obtain rfl : k = a_n a := by omega
    obtain ⟨e1, e2, e3⟩ := deaths_ok hI (a_n a)
    rw [f_X3_goYears_L99, hV.1, e1, if_pos (nI_le (Nat.le_refl _) (by omega)), lt_eq, lt_eq, hV.2.1, nI_1, e3]
    exact ⟨_, rfl, hV.y _, rfl, fun i => ⟨fun z => by omega, fun _ => ⟨rfl, rfl⟩⟩⟩
  | succ t ih =>
    intro k n v h1 h2 hV
    obtain ⟨n', rfl⟩ : ∃ n', n = n' + 1 := ⟨n - 1, by omega⟩
    obtain ⟨e1, e2, e3⟩ := deaths_ok hI k
    have hk : k < a_n (deaths a k) := by omega
    have b1 := e2.2.2.2.2 k hk
    rw [f_X3_goYears_L99, hV.1, if_neg (nI_ge hk (by omega)), v_lives e2 hV hk, some_bind']
    have alive : ¬ dcond a k → ∃ v', f_X3_goYears_L99 N K4 n' a1 (nI (dd + ndead a k)) a3 (nI (k + 1)) v = K4 a1 (nI (dd + ndead a (a_n a))) (a3 + 1) v' ∧ VR (a_set_y (deaths a (a_n a)) (a_y a + 1)) v' ∧ YT a k (a_n a) (a_y a) v v' := by
      intro nc
      have e : deaths a (k + 1) = deaths a k := by rw [deaths]; exact if_neg nc
      have e' : ndead a (k + 1) = ndead a k := by rw [ndead]; exact if_neg nc
      obtain ⟨v', z1, z2, z3, z4⟩ := ih (k + 1) n' v (by omega) (by omega) (by rw [e]; exact hV)
      rw [e'] at z1
      refine ⟨v', z1, z2, z3, fun i => ⟨fun y => (z4 i).1 ⟨?_, y.2.1, y.2.2⟩, fun y => (z4 i).2 (fun w => y ⟨by omega, w.2.1, w.2.2⟩)⟩⟩
      have : i ≠ k := fun w => nc (w ▸ y.2.2)
      omega
    cases c : a_lv (deaths a k) k with
    | false =>
      rw [if_pos (by rfl), lt_eq, nI_1]
      exact alive (fun z => by rw [z.1] at c; cases c)
    | true =>
      rw [if_neg (by decide), rd_nI (by omega) (by decide), some_bind', rd_nI (by omega) (by decide), some_bind', (hV.2.2.2.2.2.2 k hk).2.1, (hV.2.2.2.2.2.2 k hk).2.2.2.1]
      by_cases c2 : a_ag (deaths a k) k < a_tm (deaths a k) k
      · rw [if_pos (by rw [nI_lt_iff (by omega) (by omega)]; exact c2), lt_eq, nI_1]
        exact alive (fun z => by have := z.2; omega)
      · rw [if_neg (by rw [nI_lt_iff (by omega) (by omega)]; exact c2)]
        have dc : dcond a k := ⟨c, by omega⟩
        obtain ⟨v1, q1, q2, q3, q4, q5⟩ := v_die hN e2 hV hk
        have e : deaths a (k + 1) = die (deaths a k) k := by rw [deaths]; exact if_pos dc
        have e' : ndead a (k + 1) = ndead a k + 1 := by rw [ndead]; exact if_pos dc
        have ey : v_year v1 = nI (a_y a) := by
          have z := q2.2.1
          have w : a_y (die (deaths a k) k) = a_y a := by rw [← e]; exact (deaths_ok hI (k + 1)).2.2
          rw [w] at z; exact z
        rw [q1, bd2_some, ck_nI (by omega) (by decide), some_bind', lt_eq, lt_eq, lt_eq, nI_1, nI_1, nI_clamp (by omega), ey, nI_1]
        obtain ⟨v', z1, z2, z3, z4⟩ := ih (k + 1) n' (v_set_deathYears v1 (upd (v_deathYears v1) k (nI (a_y a + 1)))) (by omega) (by omega) (by rw [e]; exact q2.dy _)
        rw [e', ← Nat.add_assoc] at z1
        refine ⟨v', z1, z2, z3.trans q3, fun i => ?_⟩
        by_cases ci : i = k
        · subst ci
          obtain ⟨w1, w2⟩ := (z4 i).2 (fun w => by omega)
          refine ⟨fun _ => ⟨?_, ?_⟩, fun y => absurd ⟨Nat.le_refl _, by omega, dc⟩ y⟩
          · rw [w1]; show v_gotBy v1 i = _; rw [q4]; exact pk_us
          · rw [w2]; exact pk_us
        · constructor
          · intro y
            exact (z4 i).1 ⟨by omega, y.2.1, y.2.2⟩
          · intro y
            obtain ⟨w1, w2⟩ := (z4 i).2 (fun w => y ⟨by omega, w.2.1, w.2.2⟩)
            refine ⟨?_, ?_⟩
            · rw [w1]; show v_gotBy v1 i = _; rw [q4]; exact pk_un ci
            · rw [w2]; show upd (v_deathYears v1) k _ i = _; rw [q5]; exact pk_un ci
/-- a year -/
theorem v_ayear (hN : 5000 ≤ N) (hI : Inv a) {v : VD} (hV : VR a v) (dd : Nat) : ∃ v', f_X3_goYears_L12 N K4 N a1 (nI dd) a3 (0 : Int32) v = K4 a1 (nI (dd + yearD a)) (a3 + 1) v' ∧ VR (year a) v' ∧ YT (yearA a) 0 (a_n a) (a_y a) v v' := by
  have hn := hI.1
  obtain ⟨a1', a2', a3'⟩ := alters_ok hI (a_n a) (Nat.le_refl _)
  obtain ⟨y1, y2, y3⟩ := yearA_ok hI
  obtain ⟨v1, q1, q2, q3⟩ := v_alters_L (K4 := K4) (a1 := a1) (a2 := nI dd) (a3 := a3) hN hI (a_n a) 0 N v (by omega) (by omega) hV
  obtain ⟨v2, r1, r2, r3⟩ := v_olds_L (N := N) (K4 := K4) (a1 := a1) (a2 := nI dd) (a3 := a3) a2' (a_n a) 0 N v1 (by omega) (by omega) q2
  have r2 : VR (yearA a) v2 := by unfold yearA; rw [a1'] at r2; exact r2
  obtain ⟨v3, t1, t2, t3⟩ := v_deaths_L (K4 := K4) (a1 := a1) (a3 := a3) hN y2 dd (a_n a) 0 N v2 (by omega) (by omega) r2
  have k := q3.tr r3
  refine ⟨v3, ?_, ?_, ?_⟩
  · have z := q1.trans (r1.trans t1)
    rw [y1] at z
    exact z
  · unfold year
    rw [y1, y3] at t2
    exact t2
  · rw [y1, y3] at t3
    refine ⟨t3.1.trans k.1, fun i => ⟨(t3.2 i).1, fun w => ?_⟩⟩
    obtain ⟨z1, z2⟩ := (t3.2 i).2 w
    exact ⟨z1.trans (congrFun k.2.1 i), z2.trans (congrFun k.2.2 i)⟩
/-- what many years leave -/
def YM (a : AS) (n : Nat) (v v' : VD) : Prop := v_children v' = v_children v ∧ ∀ i, i < a_n a → ∀ k, k < n → dcond (yearA (years a k)) i → v_gotBy v' i = enc (heirAt (years a k) i) ∧ v_deathYears v' i = nI (a_y a + k + 1)
theorem v_years_L (hN : 5000 ≤ N) (hI : Inv a) {v0 : VD} {n : Nat} (hn : a_y a + n ≤ 9999) (h100 : n ≤ 100) : ∀ (t k f : Nat) (v : VD), k + t = n → t < f → VR (years a k) v → YM a k v0 v →
    ∃ v', f_X3_goYears_L4 N f (nI n) (nI (yearsD a k)) (nI k) v = some (nI (yearsD a n), v') ∧ VR (years a n) v' ∧ YM a n v0 v' := by
  intro t
  induction t with
  | zero =>
    intro k f v h1 h2 hV hY
    obtain ⟨n', rfl⟩ : ∃ n', f = n' + 1 := ⟨f - 1, by omega⟩
    obtain rfl : k = n := by omega
    rw [f_X3_goYears_L4, if_pos (nI_le (Nat.le_refl _) (by omega))]
    exact ⟨v, rfl, hV, hY⟩
  | succ t ih =>
    intro k f v h1 h2 hV hY
    obtain ⟨n', rfl⟩ : ∃ n', f = n' + 1 := ⟨f - 1, by omega⟩
    obtain ⟨e1, e2, e3⟩ := years_ok hI k (by omega)
    rw [f_X3_goYears_L4, if_neg (nI_ge (by omega) (by omega))]
    obtain ⟨v1, q1, q2, q3, q4⟩ := v_ayear (K4 := f_X3_goYears_L4 N n') (a1 := nI n) (a3 := nI k) hN e2 hV (yearsD a k)
    rw [q1, nI_1]
    refine ih (k + 1) n' v1 (by omega) (by omega) q2 ⟨q3.trans hY.1, fun i hi j hj hd => ?_⟩
    by_cases c : j = k
    · subst c
      obtain ⟨w1, w2⟩ := (q4 i).1 ⟨by omega, by omega, hd⟩
      rw [e3] at w2
      exact ⟨w1, w2⟩
    · obtain ⟨j1, -, -⟩ := years_ok hI j (by omega)
      have hdead : a_lv (years a (j + 1)) i = false := (year_lv (a := years a j) (i := i) (by omega)).1 hd
      obtain ⟨-, nd⟩ := years_dead hI hi hdead (k - (j + 1)) (by omega)
      rw [show j + 1 + (k - (j + 1)) = k by omega] at nd
      obtain ⟨w1, w2⟩ := (q4 i).2 (fun w => nd w.2.2)
      obtain ⟨u1, u2⟩ := hY.2 i hi j (by omega) hd
      exact ⟨w1.trans u1, w2.trans u2⟩
theorem v_years (hN : 5000 ≤ N) (hI : Inv a) {v : VD} (hV : VR a v) {n : Nat} (hn : a_y a + n ≤ 9999) (h100 : n ≤ 100) : ∃ v', f_X3_goYears N (nI n) v = some (nI (yearsD a n), v') ∧ VR (years a n) v' ∧ YM a n v v' := by
  unfold f_X3_goYears
  exact v_years_L hN hI hn h100 n 0 N v (by omega) (by omega) hV ⟨rfl, fun i hi k hk => absurd hk (by omega)⟩
end VAL4
