/-! ===== THE CLASS: who is richest, aims, plans, sets ===== -/
theorem enc_m1 {o : Nat} (ho : o < 2147483648) : (enc o = -1) = (o = 0) := by
  apply propext
  cases o with
  | zero => exact ⟨fun _ => rfl, fun _ => rfl⟩
  | succ o => rw [enc_s]; exact ⟨fun e => absurd e (nI_ne_m1 o (by omega)), fun e => absurd e (by omega)⟩
theorem fs_snoc {p : Nat → Bool} : ∀ (t k : Nat), p (k + t) = false → fs p k (t + 1) = fs p k t
  | 0, k, h => by rw [fs, fs]; rw [Nat.add_zero] at h; rw [h]; rfl
  | t + 1, k, h => by
    have ih := fs_snoc t (k + 1) (by rw [show k + 1 + t = k + (t + 1) by omega]; exact h)
    rw [fs, ih]
    rfl
def vgd (a : AS) (o : Nat) : Int32 := if o = 0 then -1 else nI (a_gd a (o - 1))
def plan (a : AS) (i : Nat) : Int32 := if chg a i = 0 then -1 else nI (10 * (chg a i - 1) + neww a i (chg a i - 1))
theorem x_leastOf_L {N : Nat} (x : Int32) : ∀ (t m n : Nat), m + t = 9 → t < n → f_X4_leastOf_L2 N n x (nI m) = some (enc (fs (bt x) m t)) := by
  intro t
  induction t with
  | zero =>
    intro m n h1 h2
    obtain ⟨n', rfl⟩ : ∃ n', n = n' + 1 := ⟨n - 1, by omega⟩
    obtain rfl : m = 9 := by omega
    rw [f_X4_leastOf_L2, if_pos (show (9 : Int32) ≤ nI 9 from nI_le (Nat.le_refl 9) (by decide))]
    rfl
  | succ t ih =>
    intro m n h1 h2
    obtain ⟨n', rfl⟩ : ∃ n', n = n' + 1 := ⟨n - 1, by omega⟩
    rw [f_X4_leastOf_L2, if_neg (show ¬ (9 : Int32) ≤ nI m from nI_ge (show m < 9 by omega) (by decide)), b_sft x m (by omega), fs]
    cases c : bt x m with
    | true => rw [if_neg (by decide), if_pos rfl, enc_s]
    | false => rw [if_pos (by rfl), if_neg (by decide), lt_eq, nI_1]; exact ih (m + 1) n' (by omega) (by omega)
theorem x_leastOf {N : Nat} (hN : 5000 ≤ N) (x : Int32) : f_X4_leastOf N x = some (enc (fs (bt x) 0 9)) := by
  unfold f_X4_leastOf
  exact x_leastOf_L x 9 0 N (by omega) (by omega)
section VAL2
variable {N : Nat} {v : VD} {a : AS}
theorem v_rich_L (hI : Inv a) (hV : VR a v) {i : Nat} (hi : i ≤ a_n a) : ∀ (t k n : Nat), k + t = a_n a → t < n →
    f_X3_richestBut_L7 N v n (enc i) (enc (rb a i k)) (vgd a (rb a i k)) (nI k) = some (enc (rb a i (a_n a))) := by
  have hn := hI.1
  intro t
  induction t with
  | zero =>
    intro k n h1 h2
    obtain ⟨n', rfl⟩ : ∃ n', n = n' + 1 := ⟨n - 1, by omega⟩
    obtain rfl : k = a_n a := by omega
    rw [f_X3_richestBut_L7, hV.1, if_pos (nI_le (Nat.le_refl _) (by omega))]
  | succ t ih =>
    intro k n h1 h2
    obtain ⟨n', rfl⟩ : ∃ n', n = n' + 1 := ⟨n - 1, by omega⟩
    have hk : k < a_n a := by omega
    have ih' := ih (k + 1) n' (by omega) (by omega)
    have le := rb_le a i k
    have g1 := (hI.2.2.2.2 k hk).2.2.1
    rw [f_X3_richestBut_L7, hV.1, if_neg (nI_ge hk (by omega))]
    rw [rb] at ih'
    by_cases c1 : k + 1 = i
    · rw [if_pos (by rw [← c1, enc_s]), lt_eq, nI_1]
      rw [if_pos (Or.inl c1)] at ih'
      exact ih'
    rw [if_neg (fun z => c1 (by rw [eq_comm, enc_eq (by omega) (by omega)] at z; omega)), v_lives hI hV hk, some_bind']
    cases c3 : a_lv a k with
    | false =>
      rw [if_pos (by rfl), lt_eq, nI_1]
      rw [if_pos (Or.inr c3)] at ih'
      exact ih'
    | true =>
      rw [if_neg (by decide), rd_nI (by omega) (by decide), some_bind', (hV.2.2.2.2.2.2 k hk).2.2.1]
      rw [if_neg (show ¬ (k + 1 = i ∨ a_lv a k = false) by rw [c3]; simp [c1])] at ih'
      by_cases c4 : rb a i k = 0
      · have e1 : vgd a (rb a i k) = -1 := by rw [c4]; rfl
        rw [if_neg (by rw [e1]; have := m1_lt (a_gd a k) (by omega); rw [fa_lt'] at this; rw [fa_le']; omega), some_bind', lt_eq, nI_1]
        rw [if_pos (Or.inl c4), enc_s] at ih'
        exact ih'
      · obtain ⟨o, ho⟩ : ∃ o, rb a i k = o + 1 := ⟨rb a i k - 1, by omega⟩
        have ho' : o < a_n a := by omega
        have g2 := (hI.2.2.2.2 o ho').2.2.1
        have e1 : vgd a (o + 1) = nI (a_gd a o) := rfl
        rw [ho] at ih' ⊢
        rw [e1]
        simp only [Nat.add_sub_cancel, Nat.succ_ne_zero, false_or] at ih'
        by_cases c5 : a_gd a k ≤ a_gd a o
        · rw [if_pos (by rw [nI_le_iff (by omega) (by omega)]; exact c5), lt_eq, nI_1]
          rw [if_neg (by omega), e1] at ih'
          exact ih'
        · rw [if_neg (by rw [nI_le_iff (by omega) (by omega)]; exact c5), some_bind', lt_eq, nI_1]
          rw [if_pos (by omega), enc_s] at ih'
          exact ih'
theorem v_rich (hN : 5000 ≤ N) (hI : Inv a) (hV : VR a v) {i : Nat} (hi : i ≤ a_n a) : f_X3_richestBut N (enc i) v = some (enc (rb a i (a_n a))) := by
  have hn := hI.1
  unfold f_X3_richestBut
  exact v_rich_L hI hV hi (a_n a) 0 N (by omega) (by omega)
theorem v_aim25 (hN : 5000 ≤ N) (hI : Inv a) (hV : VR a v) {i : Nat} (hi : i < a_n a) : f_X3_aimOf_J25 N v (nI i) (enc (kidOf a i)) = some (enc (aim a i)) := by
  have hn := hI.1
  have hk := (hI.2.2.2.2 i hi).1
  have hr := v_rich (N := N) hN hI hV (i := i + 1) (by omega)
  rw [enc_s] at hr
  have kl := kidOf_le hI hi
  have e : ∀ c : Nat, c < 100 → ((nI (a_kd a i) = nI c) = (a_kd a i = c)) := fun c hc => nI_eq_iff (by omega) (by omega)
  unfold f_X3_aimOf_J25 aim
  rw [rd_nI (by omega) (by decide), some_bind', (hV.2.2.2.2.2.2 i hi).1, lit_nI 1, lit_nI 2, lit_nI 3, lit_nI 4, lit_nI 5]
  simp only [e 1 (by decide), e 2 (by decide), e 3 (by decide), e 4 (by decide), e 5 (by decide)]
  by_cases c1 : a_kd a i = 1
  · rw [if_pos c1, if_pos (Or.inl c1), hr]; rfl
  rw [if_neg c1]
  by_cases c2 : a_kd a i = 2
  · rw [if_pos c2, if_neg (by omega), if_neg (by omega), if_neg (by omega)]; rfl
  rw [if_neg c2]
  by_cases c3 : a_kd a i = 3
  · rw [if_pos c3, if_neg (by omega), if_pos c3]
  rw [if_neg c3]
  by_cases c4 : a_kd a i = 4
  · rw [if_pos c4, if_pos (Or.inr c4), hr]; rfl
  rw [if_neg c4, if_neg (show ¬ (a_kd a i = 1 ∨ a_kd a i = 4) by omega), if_neg c3]
  by_cases c5 : a_kd a i = 5
  · rw [if_pos c5, if_pos c5]
    by_cases c6 : kidOf a i = 0
    · rw [if_pos (by rw [show (-(nI 1) : Int32) = -1 from rfl, enc_m1 (by omega)]; exact c6), if_pos c6, v_heir hN hI hV hi]; rfl
    · rw [if_neg (by rw [show (-(nI 1) : Int32) = -1 from rfl, enc_m1 (by omega)]; exact c6), if_neg c6]
  · rw [if_neg c5, if_neg c5]; rfl
theorem v_aim (hN : 5000 ≤ N) (hI : Inv a) (hV : VR a v) {i : Nat} (hi : i < a_n a) : f_X3_aimOf N (nI i) v = some (enc (aim a i)) := by
  have hn := hI.1
  have hc := (hI.2.2.2.2 i hi).2.2.2.2.2.1
  have f25 := v_aim25 (N := N) hN hI hV hi
  unfold f_X3_aimOf f_X3_aimOf_J24
  rw [rd_nI (by omega) (by decide), some_bind', (hV.2.2.2.2.2.2 i hi).2.2.2.2.1]
  unfold kidOf at f25
  by_cases c : a_ch a i = 0
  · rw [if_pos (by rw [enc_m1 (by omega)]; exact c)]
    rw [if_pos (Or.inl c)] at f25
    exact f25
  · rw [if_neg (by rw [enc_m1 (by omega)]; exact c)]
    obtain ⟨o, ho⟩ : ∃ o, a_ch a i = o + 1 := ⟨a_ch a i - 1, by omega⟩
    have ho' : o < a_n a := by omega
    rw [ho] at f25 ⊢
    rw [enc_s, v_lives hI hV ho', some_bind']
    simp only [Nat.add_sub_cancel, Nat.succ_ne_zero, false_or] at f25
    cases c3 : a_lv a o with
    | false =>
      rw [if_pos (by rfl)]
      rw [c3, if_pos rfl] at f25
      exact f25
    | true =>
      rw [if_neg (by decide)]
      rw [c3, if_neg (by decide), enc_s] at f25
      exact f25
theorem x_nextWay {x : Nat} (hx : x ≤ 3) : f_X4_nextWay N (nI x) = some (nI ((x + 1) % 4)) := by
  unfold f_X4_nextWay
  rw [nI_1, show (4 : Int32) = nI 4 from rfl, pk_rem (by omega) (by omega) (by omega)]
/-- planOf, from the marks on -/
theorem v_plan90 (hN : 5000 ≤ N) (hI : Inv a) (hV : VR a v) {i o : Nat} (hi : i < a_n a) (ho : o < a_n a) (hoo : (if a_kd a i = 2 then heir a i else aim a i) = o + 1) {x b : Int32} (hb' : b = if a_kd a i = 2 then 1 else 0) (hx : enc (fs (bt x) 0 9) = enc (wish a i)) : f_X3_planOf_J90 N v (nI i) b (nI o) x = some (plan a i) := by
  have hn := hI.1
  have hw := wish_le a i
  have hg := (hI.2.2.2.2 i hi).2.2.1
  obtain ⟨i1, i2, i3, i4, i5, i6⟩ := hV.2.2.2.2.2.2 i hi
  obtain ⟨o1, o2, o3, o4, o5, o6⟩ := hV.2.2.2.2.2.2 o ho
  unfold f_X3_planOf_J90 plan chg
  rw [x_leastOf hN, some_bind', hx]
  by_cases c : wish a i = 0
  · rw [if_pos (by rw [enc_m1 (by omega)]; exact c), if_pos (Or.inl c), if_pos rfl]
  · have hc := (hI.2.2.2.1 (wish a i - 1) (by omega)).2
    have hc' := (hV.2.2.2.1 (wish a i - 1) (by omega)).2
    rw [if_neg (by rw [enc_m1 (by omega)]; exact c), rd_nI (by omega) (by decide), some_bind', enc_pos c, rd_nI (by omega) (by decide), some_bind', i3, hc']
    by_cases c2 : a_co a (wish a i - 1) ≤ a_gd a i
    · rw [if_pos (by rw [nI_le_iff (by omega) (by omega)]; exact c2), if_neg (show ¬ (wish a i = 0 ∨ a_gd a i < a_co a (wish a i - 1)) by omega), if_neg c]
      by_cases k2 : a_kd a i = 2
      · rw [if_neg (by rw [hb', if_pos k2]; decide), rd_nI (by omega) (by decide), some_bind', x_wayIn i6 (by omega) ((hI.2.2.2.2 i hi).2.2.2.2.2.2 _ (by omega)), some_bind', x_nextWay ((hI.2.2.2.2 i hi).2.2.2.2.2.2 _ (by omega)), some_bind', lit_nI 10, nI_muln, nI_addn]
        unfold neww
        rw [if_pos k2]
      · rw [if_pos (by rw [hb', if_neg k2]), rd_nI (by omega) (by decide), some_bind', x_wayIn o6 (by omega) ((hI.2.2.2.2 o ho).2.2.2.2.2.2 _ (by omega)), some_bind', lit_nI 10, nI_muln, nI_addn]
        rw [if_neg k2] at hoo
        unfold neww
        rw [if_neg k2, hoo, Nat.add_sub_cancel]
    · rw [if_neg (by rw [nI_le_iff (by omega) (by omega)]; exact c2), if_pos (show wish a i = 0 ∨ a_gd a i < a_co a (wish a i - 1) by omega), if_pos rfl]
theorem v_plan (hN : 5000 ≤ N) (hI : Inv a) (hV : VR a v) {i : Nat} (hi : i < a_n a) : f_X3_planOf N (nI i) v = some (plan a i) := by
  have hn := hI.1
  have hk := (hI.2.2.2.2 i hi).1
  have bi := (hI.2.2.2.2 i hi).2.2.2.2.2.2
  obtain ⟨i1, i2, i3, i4, i5, i6⟩ := hV.2.2.2.2.2.2 i hi
  have fin : ∀ (b : Bool) (o : Nat), o ≤ a_n a → decide (a_kd a i = 2) = b → (if a_kd a i = 2 then heir a i else aim a i) = o → f_X3_planOf_J33 N v (nI i) (if b then 1 else 0) (enc o) = some (plan a i) := by
    intro b o ho hb' ho'
    unfold f_X3_planOf_J33
    by_cases c : o = 0
    · rw [if_pos (by rw [enc_m1 (by omega)]; exact c)]
      unfold plan chg wish
      rw [ho', if_pos c, if_pos (Or.inl rfl), if_pos rfl]
    · obtain ⟨q, rfl⟩ : ∃ q, o = q + 1 := ⟨o - 1, by omega⟩
      have hq : q < a_n a := by omega
      have bq := (hI.2.2.2.2 q hq).2.2.2.2.2.2
      obtain ⟨q1, q2, q3, q4, q5, q6⟩ := hV.2.2.2.2.2.2 q hq
      obtain ⟨u, hu, hub⟩ := x_unlike (N := N) i6 q6 bi bq
      rw [if_neg (by rw [enc_m1 (by omega)]; exact c), rd_nI (by omega) (by decide), some_bind', enc_s, rd_nI (by omega) (by decide), some_bind', hu, some_bind']
      have hbI : (if b then (1 : Int32) else 0) = if a_kd a i = 2 then 1 else 0 := by
        rw [← hb']
        by_cases k2 : a_kd a i = 2
        · rw [decide_eq_true k2, if_pos rfl, if_pos k2]
        · rw [decide_eq_false k2, if_neg (by decide), if_neg k2]
      have fin2 : ∀ y : Int32, (∀ m, m < 9 → bt y m = ((a_wy a i m == a_wy a q m) == decide (a_kd a i = 2))) → f_X3_planOf_J72 N v (nI i) (if b then 1 else 0) (nI q) y = some (plan a i) := by
        intro y hy
        unfold f_X3_planOf_J72
        rw [rd_nI (by omega) (by decide), some_bind', i1]
        by_cases k4 : a_kd a i = 4
        · rw [if_pos (by rw [k4]; rfl), lt_eq]
          apply v_plan90 hN hI hV hi hq ho' hbI
          unfold wish
          rw [ho', if_neg (by omega), if_pos k4, Nat.add_sub_cancel, fs_snoc 8 0 (by rw [b_and, b_m257 8 (by decide)]; simp)]
          congr 1
          apply fs_cong
          intro m _ hm
          rw [b_and, b_m257 m (by omega), hy m (by omega), decide_eq_true (show m ≠ 8 by omega), Bool.and_true]
        · rw [if_neg (by rw [lit_nI 4, nI_eq_iff (by omega) (by decide)]; exact k4)]
          apply v_plan90 hN hI hV hi hq ho' hbI
          unfold wish
          rw [ho', if_neg (by omega), if_neg k4, Nat.add_sub_cancel]
          congr 1
          apply fs_cong
          intro m _ hm
          exact hy m (by omega)
      by_cases k2 : a_kd a i = 2
      · rw [if_neg (by rw [hbI, if_pos k2]; decide), lt_eq]
        apply fin2
        intro m hm
        rw [b_and, b_511 m (by omega), b_not u (by omega), hub m (by omega), decide_eq_true hm, decide_eq_true k2]
        by_cases e : a_wy a i m = a_wy a q m <;> simp [e]
      · rw [if_pos (by rw [hbI, if_neg k2])]
        apply fin2
        intro m hm
        rw [hub m (by omega), decide_eq_true hm, decide_eq_false k2]
        by_cases e : a_wy a i m = a_wy a q m <;> simp [e]
  unfold f_X3_planOf
  rw [rd_nI (by omega) (by decide), some_bind', i1]
  by_cases c : a_kd a i = 2
  · rw [if_pos (by rw [c]; rfl)]
    unfold f_X3_planOf_J15
    rw [if_neg (by decide), v_heir hN hI hV hi, some_bind']
    exact fin true (heir a i) (heir_le a i) (decide_eq_true c) (if_pos c)
  · rw [if_neg (by rw [lit_nI 2, nI_eq_iff (by omega) (by decide)]; exact c)]
    unfold f_X3_planOf_J15
    rw [if_pos rfl, v_aim hN hI hV hi, some_bind']
    exact fin false (aim a i) (aim_le hI hi) (decide_eq_false c) (if_neg c)
theorem v_leavers_L (hN : 5000 ≤ N) (hI : Inv a) (hV : VR a v) {i : Nat} (hi : i < a_n a) : ∀ (t k n : Nat), k + t = a_n a → t < n →
    f_X3_leaversTo_L4 N v n (nI i) (sI (heirs a i) k) (nI k) = some (sI (heirs a i) (a_n a)) := by
  have hn := hI.1
  intro t
  induction t with
  | zero =>
    intro k n h1 h2
    obtain ⟨n', rfl⟩ : ∃ n', n = n' + 1 := ⟨n - 1, by omega⟩
    obtain rfl : k = a_n a := by omega
    rw [f_X3_leaversTo_L4, hV.1, if_pos (nI_le (Nat.le_refl _) (by omega))]
  | succ t ih =>
    intro k n h1 h2
    obtain ⟨n', rfl⟩ : ∃ n', n = n' + 1 := ⟨n - 1, by omega⟩
    have hk : k < a_n a := by omega
    have ih' := ih (k + 1) n' (by omega) (by omega)
    have hl := heir_le a k
    rw [f_X3_leaversTo_L4, hV.1, if_neg (nI_ge hk (by omega)), v_lives hI hV hk, some_bind']
    rw [sI] at ih'
    cases c3 : a_lv a k with
    | false =>
      rw [if_pos (by rfl), lt_eq, nI_1]
      rw [show heirs a i k = false by unfold heirs; rw [c3]; rfl, if_neg (by decide)] at ih'
      exact ih'
    | true =>
      rw [if_neg (by decide), v_heir hN hI hV hk, some_bind']
      by_cases c4 : heir a k = i + 1
      · rw [if_pos (by rw [enc_eq (by omega) (by omega)]; exact c4), lt_eq, lt_eq, nI_1]
        rw [show heirs a i k = true by unfold heirs; rw [c3, c4]; simp, if_pos rfl] at ih'
        exact ih'
      · rw [if_neg (by rw [enc_eq (by omega) (by omega)]; exact c4), lt_eq, nI_1]
        rw [show heirs a i k = false by unfold heirs; simp [c4], if_neg (by decide)] at ih'
        exact ih'
theorem v_leavers (hN : 5000 ≤ N) (hI : Inv a) (hV : VR a v) {i : Nat} (hi : i < a_n a) : f_X3_leaversTo N (nI i) v = some (sI (heirs a i) (a_n a)) := by
  have hn := hI.1
  unfold f_X3_leaversTo
  exact v_leavers_L hN hI hV hi (a_n a) 0 N (by omega) (by omega)
theorem v_watch_L (hN : 5000 ≤ N) (hI : Inv a) (hV : VR a v) {i : Nat} (hi : i < a_n a) : ∀ (t k n : Nat), k + t = a_n a → t < n →
    f_X3_watchersOf_L4 N v n (nI i) (sI (fun k => a_lv a k && (aim a k == i + 1)) k) (nI k) = some (watch a i) := by
  have hn := hI.1
  intro t
  induction t with
  | zero =>
    intro k n h1 h2
    obtain ⟨n', rfl⟩ : ∃ n', n = n' + 1 := ⟨n - 1, by omega⟩
    obtain rfl : k = a_n a := by omega
    rw [f_X3_watchersOf_L4, hV.1, if_pos (nI_le (Nat.le_refl _) (by omega))]
    rfl
  | succ t ih =>
    intro k n h1 h2
    obtain ⟨n', rfl⟩ : ∃ n', n = n' + 1 := ⟨n - 1, by omega⟩
    have hk : k < a_n a := by omega
    have ih' := ih (k + 1) n' (by omega) (by omega)
    have hl := aim_le hI hk
    rw [f_X3_watchersOf_L4, hV.1, if_neg (nI_ge hk (by omega)), v_lives hI hV hk, some_bind']
    rw [sI] at ih'
    cases c3 : a_lv a k with
    | false =>
      rw [if_pos (by rfl), lt_eq, nI_1]
      rw [c3, if_neg (by simp)] at ih'
      exact ih'
    | true =>
      rw [if_neg (by decide), v_aim hN hI hV hk, some_bind']
      by_cases c4 : aim a k = i + 1
      · rw [if_pos (by rw [enc_eq (by omega) (by omega)]; exact c4), lt_eq, lt_eq, nI_1]
        rw [c3, c4, if_pos (by simp)] at ih'
        exact ih'
      · rw [if_neg (by rw [enc_eq (by omega) (by omega)]; exact c4), lt_eq, nI_1]
        rw [if_neg (by simp [c4])] at ih'
        exact ih'
theorem v_watch (hN : 5000 ≤ N) (hI : Inv a) (hV : VR a v) {i : Nat} (hi : i < a_n a) : f_X3_watchersOf N (nI i) v = some (watch a i) := by
  have hn := hI.1
  unfold f_X3_watchersOf
  exact v_watch_L hN hI hV hi (a_n a) 0 N (by omega) (by omega)
/-- a sum over a set -/
theorem v_sum_L (hI : Inv a) (hV : VR a v) {S : Int32} {p : Nat → Bool} (hS : ∀ k, k < a_n a → bt S k = p k) {f : Nat → Int32} {g : Nat → Nat} (hf : ∀ k, k < a_n a → f k = nI (g k)) : ∀ (t k n : Nat), k + t = a_n a → t < n →
    f_X3_sumOf_L5 N 12 v f n S (nI (sm (fun j => if p j then g j else 0) k)) (nI k) = some (nI (sm (fun j => if p j then g j else 0) (a_n a))) := by
  have hn := hI.1
  intro t
  induction t with
  | zero =>
    intro k n h1 h2
    obtain ⟨n', rfl⟩ : ∃ n', n = n' + 1 := ⟨n - 1, by omega⟩
    obtain rfl : k = a_n a := by omega
    rw [f_X3_sumOf_L5, hV.1, if_pos (nI_le (Nat.le_refl _) (by omega))]
  | succ t ih =>
    intro k n h1 h2
    obtain ⟨n', rfl⟩ : ∃ n', n = n' + 1 := ⟨n - 1, by omega⟩
    have hk : k < a_n a := by omega
    have ih' := ih (k + 1) n' (by omega) (by omega)
    rw [f_X3_sumOf_L5, hV.1, if_neg (nI_ge hk (by omega)), b_sft _ k (by omega), hS k hk]
    rw [sm] at ih'
    cases c : p k with
    | true =>
      rw [if_neg (by decide), rd_nI (by omega) (by decide), some_bind', hf k hk, lt_eq, lt_eq, nI_1, nI_addn]
      rw [c, if_pos rfl] at ih'
      exact ih'
    | false =>
      rw [if_pos (by rfl), lt_eq, nI_1]
      rw [c, if_neg (by decide), Nat.add_zero] at ih'
      exact ih'
theorem v_sum (hN : 5000 ≤ N) (hI : Inv a) (hV : VR a v) {S : Int32} {p : Nat → Bool} (hS : ∀ k, k < a_n a → bt S k = p k) {f : Nat → Int32} {g : Nat → Nat} (hf : ∀ k, k < a_n a → f k = nI (g k)) : f_X3_sumOf N 12 S v f = some (nI (sm (fun j => if p j then g j else 0) (a_n a))) := by
  have hn := hI.1
  unfold f_X3_sumOf
  exact v_sum_L hI hV hS hf (a_n a) 0 N (by omega) (by omega)
theorem v_expected (hN : 5000 ≤ N) (hI : Inv a) (hV : VR a v) {i : Nat} (hi : i < a_n a) : f_X3_expectedBy N (nI i) v = some (nI (gsum a (heirs a i) (a_n a))) := by
  have hn := hI.1
  unfold f_X3_expectedBy
  rw [v_leavers hN hI hV hi, some_bind', v_sum hN hI hV (p := heirs a i) (g := a_gd a) (fun k hk => by rw [sI_bt _ _ (by omega) k (by omega), decide_eq_true hk, Bool.true_and]) (fun k hk => (hV.2.2.2.2.2.2 k hk).2.2.1), some_bind']
  rfl
end VAL2
