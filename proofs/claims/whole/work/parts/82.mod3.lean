/-! ===== THE REFERENCE: sets, sums, wishes ===== -/
theorem or_0 (x : Int32) : x ||| 0 = x := by
  apply b_ext
  intro i _
  rw [b_or, b_0, Bool.or_false]
theorem sI_bt (p : Nat → Bool) : ∀ n, n ≤ 32 → ∀ i, i < 32 → bt (sI p n) i = (decide (i < n) && p i)
  | 0, _, i, _ => by rw [sI, b_0, decide_eq_false (by omega), Bool.false_and]
  | n + 1, hn, i, hi => by
    have ih := sI_bt p n (by omega) i hi
    rw [sI]
    by_cases e : i = n
    · subst e
      cases c : p i with
      | true => rw [if_pos rfl, b_or, b_pow i (by omega) hi]; simp
      | false => rw [if_neg (by decide), ih]; simp [c]
    · have e1 : decide (i < n + 1) = decide (i < n) := by
        by_cases z : i < n
        · rw [decide_eq_true z, decide_eq_true (show i < n + 1 by omega)]
        · rw [decide_eq_false z, decide_eq_false (show ¬ i < n + 1 by omega)]
      rw [e1]
      cases c : p n with
      | true => rw [if_pos rfl, b_or, b_pow n (by omega) hi, ih]; simp [e]
      | false => rw [if_neg (by decide), ih]
theorem hb_ne (a : AS) (i b : Nat) : ∀ k, hb a i b k ≠ i + 1 ∧ hb a i b k ≠ b + 1
  | 0 => ⟨by rw [hb]; omega, by rw [hb]; omega⟩
  | k + 1 => by
    have ih := hb_ne a i b k
    rw [hb]
    split
    · exact ih
    · rename_i h
      split
      · constructor <;> (intro e; apply h; omega)
      · exact ih
theorem hb_lv (a : AS) (i b : Nat) : ∀ k, hb a i b k ≠ 0 → a_lv a (hb a i b k - 1) = true
  | 0 => fun h => absurd rfl h
  | k + 1 => by
    have ih := hb_lv a i b k
    rw [hb]
    split
    · exact ih
    · rename_i h
      split
      · intro _
        show a_lv a k = true
        cases c : a_lv a k with
        | true => rfl
        | false => exact absurd (Or.inr (Or.inr c)) h
      · exact ih
theorem rb_lv (a : AS) (i : Nat) : ∀ k, rb a i k ≠ 0 → a_lv a (rb a i k - 1) = true
  | 0 => fun h => absurd rfl h
  | k + 1 => by
    have ih := rb_lv a i k
    rw [rb]
    split
    · exact ih
    · rename_i h
      split
      · intro _
        show a_lv a k = true
        cases c : a_lv a k with
        | true => rfl
        | false => exact absurd (Or.inr c) h
      · exact ih
theorem heir_le (a : AS) (i : Nat) : heir a i ≤ a_n a := hb_le a i i _
theorem aim_le {a : AS} (hI : Inv a) {i : Nat} (hi : i < a_n a) : aim a i ≤ a_n a := by
  unfold aim
  split
  · exact rb_le a _ _
  · split
    · exact kidOf_le hI hi
    · split
      · split
        · exact heir_le a i
        · exact kidOf_le hI hi
      · omega
section MOD3
variable {N : Nat} {d : MD} {a : AS}
theorem m_puts (N : Nat) (d : MD) {k w : Nat} (hk : k < 12) (hw : w < 15) (x : Int32) : f_X5_puts N (nI k) (nI w) x d = some (m_set_s d (upd (m_s d) (21 + 15 * k + w) x)) := by
  unfold f_X5_puts
  rw [ix_nI, ck_nI (by omega) (by decide), some_bind', lt_eq, nI_clamp (by omega)]
theorem m_heirs_L (hN : 5000 ≤ N) (hI : Inv a) (hS : SR a (m_s d)) {i : Nat} (hi : i < a_n a) : ∀ (t k n : Nat), k + t = a_n a → t < n →
    f_X5_heirsSet_L4 N d n (nI i) (sI (heirs a i) k) (nI k) = some (sI (heirs a i) (a_n a)) := by
  have hn := hI.1
  intro t
  induction t with
  | zero =>
    intro k n h1 h2
    obtain ⟨n', rfl⟩ : ∃ n', n = n' + 1 := ⟨n - 1, by omega⟩
    obtain rfl : k = a_n a := by omega
    rw [f_X5_heirsSet_L4, m_n hS, some_bind', if_pos (nI_le (Nat.le_refl _) (by omega))]
  | succ t ih =>
    intro k n h1 h2
    obtain ⟨n', rfl⟩ : ∃ n', n = n' + 1 := ⟨n - 1, by omega⟩
    have hk : k < a_n a := by omega
    have ih' := ih (k + 1) n' (by omega) (by omega)
    rw [f_X5_heirsSet_L4, m_n hS, some_bind', if_neg (nI_ge hk (by omega))]
    rw [sI] at ih'
    have hl := heir_le a k
    by_cases c1 : k = i
    · have z : heirs a i k = false := by
        unfold heirs heir
        have := (hb_ne a k k (a_n a)).1
        rw [← c1]
        simp [this]
      rw [if_pos (by rw [c1]), lt_eq, lt_eq, nI_1, or_0]
      rw [z, if_neg (by decide)] at ih'
      exact ih'
    rw [if_neg (by rw [nI_eq_iff (by omega) (by omega)]; exact c1), m_lives hI hS hk, some_bind']
    cases c3 : a_lv a k with
    | false =>
      rw [if_pos (by rfl), lt_eq, lt_eq, nI_1, or_0]
      rw [show heirs a i k = false by unfold heirs; rw [c3]; rfl, if_neg (by decide)] at ih'
      exact ih'
    | true =>
      rw [if_neg (by decide), m_heir hN hI hS hk, some_bind']
      by_cases c4 : heir a k = i + 1
      · rw [if_pos (by rw [enc_eq (by omega) (by omega)]; exact c4), lt_eq, lt_eq, nI_1]
        rw [show heirs a i k = true by unfold heirs; rw [c3, c4]; simp, if_pos rfl] at ih'
        exact ih'
      · rw [if_neg (by rw [enc_eq (by omega) (by omega)]; exact c4), lt_eq, lt_eq, nI_1, or_0]
        rw [show heirs a i k = false by unfold heirs; simp [c4], if_neg (by decide)] at ih'
        exact ih'
theorem m_heirs (hN : 5000 ≤ N) (hI : Inv a) (hS : SR a (m_s d)) {i : Nat} (hi : i < a_n a) : f_X5_heirsSet N (nI i) d = some (sI (heirs a i) (a_n a)) := by
  have hn := hI.1
  unfold f_X5_heirsSet
  exact m_heirs_L hN hI hS hi (a_n a) 0 N (by omega) (by omega)
def gsum (a : AS) (p : Nat → Bool) (k : Nat) : Nat := sm (fun j => if p j then a_gd a j else 0) k
theorem m_goodsTo_L (hI : Inv a) (hS : SR a (m_s d)) (p : Nat → Bool) : ∀ (t k n : Nat), k + t = a_n a → t < n →
    f_X5_goodsTo_L11 N d n (sI p (a_n a)) (nI (gsum a p k)) (nI k) = some (nI (gsum a p (a_n a))) := by
  have hn := hI.1
  intro t
  induction t with
  | zero =>
    intro k n h1 h2
    obtain ⟨n', rfl⟩ : ∃ n', n = n' + 1 := ⟨n - 1, by omega⟩
    obtain rfl : k = a_n a := by omega
    rw [f_X5_goodsTo_L11, m_n hS, some_bind', if_pos (nI_le (Nat.le_refl _) (by omega))]
  | succ t ih =>
    intro k n h1 h2
    obtain ⟨n', rfl⟩ : ∃ n', n = n' + 1 := ⟨n - 1, by omega⟩
    have hk : k < a_n a := by omega
    have ih' := ih (k + 1) n' (by omega) (by omega)
    rw [f_X5_goodsTo_L11, m_n hS, some_bind', if_neg (nI_ge hk (by omega)), b_sft _ k (by omega), sI_bt p _ (by omega) k (by omega), decide_eq_true hk, Bool.true_and]
    have e : gsum a p (k + 1) = gsum a p k + (if p k then a_gd a k else 0) := rfl
    rw [e] at ih'
    cases c : p k with
    | true =>
      rw [if_pos (by rfl), m_gd hI hS hk, some_bind', lt_eq, lt_eq, nI_1, nI_addn]
      rw [c, if_pos rfl] at ih'
      exact ih'
    | false =>
      rw [if_neg (by decide), lt_eq, lt_eq, nI_1, lit_nI 0, nI_addn]
      rw [c, if_neg (by decide)] at ih'
      exact ih'
theorem m_goodsTo (hN : 5000 ≤ N) (hI : Inv a) (hS : SR a (m_s d)) {i : Nat} (hi : i < a_n a) : f_X5_goodsTo N (nI i) d = some (nI (gsum a (heirs a i) (a_n a))) := by
  have hn := hI.1
  unfold f_X5_goodsTo
  rw [m_heirs hN hI hS hi, some_bind']
  exact m_goodsTo_L hI hS _ (a_n a) 0 N (by omega) (by omega)
theorem enc_pos {o : Nat} (h : o ≠ 0) : enc o = nI (o - 1) := by unfold enc; rw [if_neg h]
/-- wishOf: its loop -/
theorem m_wish_L (hI : Inv a) (hS : SR a (m_s d)) {i j e : Nat} (hi : i < a_n a) (hj : j < a_n a) (he : e ≤ 9) (b : Bool) (bI : Int32) (hbI : bI = if b then 1 else 0) : ∀ (t m n : Nat), m + t = e → t < n →
    f_X5_wishOf_L62 N d n (nI i) bI (nI j) (nI e) (nI m) = some (enc (fs (fun m => (a_wy a i m == a_wy a j m) == b) m t)) := by
  intro t
  induction t with
  | zero =>
    intro m n h1 h2
    obtain ⟨n', rfl⟩ : ∃ n', n = n' + 1 := ⟨n - 1, by omega⟩
    rw [f_X5_wishOf_L62, if_pos (nI_le (by omega) (by omega))]
    rfl
  | succ t ih =>
    intro m n h1 h2
    obtain ⟨n', rfl⟩ : ∃ n', n = n' + 1 := ⟨n - 1, by omega⟩
    have hm : m < 9 := by omega
    have b1 := (hI.2.2.2.2 i hi).2.2.2.2.2.2 m hm
    have b2 := (hI.2.2.2.2 j hj).2.2.2.2.2.2 m hm
    have ih' := ih (m + 1) n' (by omega) (by omega)
    rw [f_X5_wishOf_L62, if_neg (nI_ge (by omega) (by omega)), m_wy hI hS hi hm, some_bind', m_wy hI hS hj hm, some_bind']
    by_cases c : a_wy a i m = a_wy a j m
    · rw [if_pos (by rw [c])]
      have c' : (a_wy a i m == a_wy a j m) = true := by simp [c]
      cases b with
      | true =>
        rw [if_pos (show (1 : Int32) = bI from hbI.symm), fs, c', if_pos (show (true == true) = true from rfl), enc_s]
      | false =>
        rw [if_neg (show ¬ (1 : Int32) = bI by rw [hbI]; decide), fs, c', if_neg (show ¬ (true == false) = true by decide), lt_eq, nI_1]
        exact ih'
    · rw [if_neg (by rw [nI_eq_iff (by omega) (by omega)]; exact c)]
      have c' : (a_wy a i m == a_wy a j m) = false := by simp [c]
      cases b with
      | true =>
        rw [if_neg (show ¬ (0 : Int32) = bI by rw [hbI]; decide), fs, c', if_neg (show ¬ (false == true) = true by decide), lt_eq, nI_1]
        exact ih'
      | false =>
        rw [if_pos (show (0 : Int32) = bI from hbI.symm), fs, c', if_pos (show (false == false) = true from rfl), enc_s]
theorem m_wish (hN : 5000 ≤ N) (hI : Inv a) (hS : SR a (m_s d)) {i : Nat} (hi : i < a_n a) : f_X5_wishOf N (nI i) d = some (enc (wish a i)) := by
  have hn := hI.1
  have hk := (hI.2.2.2.2 i hi).1
  have fin : ∀ (b : Bool) (o : Nat), o ≤ a_n a → decide (a_kd a i = 2) = b → (if a_kd a i = 2 then heir a i else aim a i) = o → f_X5_wishOf_J33 N d (nI i) (if b then 1 else 0) (enc o) = some (enc (wish a i)) := by
    intro b o ho hb' ho'
    unfold f_X5_wishOf_J33 wish
    rw [ho', hb']
    by_cases c : o = 0
    · rw [if_neg (by rw [enc_nn (by omega)]; exact fun z => z c), if_pos c]; rfl
    · rw [if_pos (by rw [enc_nn (by omega)]; exact c), if_neg c, m_kd hI hS hi, some_bind', enc_pos c]
      by_cases c4 : a_kd a i = 4
      · rw [if_pos (by rw [c4]; rfl), if_pos c4]
        exact m_wish_L hI hS hi (j := o - 1) (e := 8) (by omega) (by omega) b _ rfl 8 0 N (by omega) (by omega)
      · rw [if_neg (by rw [lit_nI 4, nI_eq_iff (by omega) (by decide)]; exact c4), if_neg c4]
        exact m_wish_L hI hS hi (j := o - 1) (e := 9) (by omega) (by omega) b _ rfl 9 0 N (by omega) (by omega)
  unfold f_X5_wishOf
  rw [m_kd hI hS hi, some_bind']
  by_cases c : a_kd a i = 2
  · rw [if_pos (by rw [c]; rfl)]
    unfold f_X5_wishOf_J15
    rw [if_neg (by decide), m_heir hN hI hS hi, some_bind']
    exact fin true (heir a i) (heir_le a i) (decide_eq_true c) (if_pos c)
  · rw [if_neg (by rw [lit_nI 2, nI_eq_iff (by omega) (by decide)]; exact c)]
    unfold f_X5_wishOf_J15
    rw [if_pos rfl, m_aim hN hI hS hi, some_bind']
    exact fin false (aim a i) (aim_le hI hi) (decide_eq_false c) (if_neg c)
theorem wish_le (a : AS) (i : Nat) : wish a i ≤ 9 := by
  unfold wish
  by_cases c : (if a_kd a i = 2 then heir a i else aim a i) = 0
  · rw [if_pos c]; omega
  · rw [if_neg c]
    refine Nat.le_trans (fs_le _ _ _) ?_
    by_cases c4 : a_kd a i = 4
    · rw [if_pos c4]; omega
    · rw [if_neg c4]; omega
theorem chg_le (a : AS) (i : Nat) : chg a i ≤ 9 := by
  have := wish_le a i
  unfold chg
  split <;> omega
theorem m_chg (hN : 5000 ≤ N) (hI : Inv a) (hS : SR a (m_s d)) {i : Nat} (hi : i < a_n a) : f_X5_changeOf N (nI i) d = some (enc (chg a i)) := by
  have hn := hI.1
  have hw := wish_le a i
  have hg := (hI.2.2.2.2 i hi).2.2.1
  unfold f_X5_changeOf chg
  rw [m_wish hN hI hS hi, some_bind']
  by_cases c : wish a i = 0
  · rw [if_pos (by rw [enc_neg (by omega)]; exact c), if_pos (Or.inl c)]; rfl
  · have hc := (hI.2.2.2.1 (wish a i - 1) (by omega)).2
    rw [if_neg (by rw [enc_neg (by omega)]; exact c), m_gd hI hS hi, some_bind', enc_pos c, m_co hS (by omega), some_bind']
    by_cases c2 : a_co a (wish a i - 1) ≤ a_gd a i
    · rw [if_pos (by rw [nI_le_iff (by omega) (by omega)]; exact c2), if_neg (by omega), enc_pos c]
    · rw [if_neg (by rw [nI_le_iff (by omega) (by omega)]; exact c2), if_pos (by omega)]; rfl
end MOD3
