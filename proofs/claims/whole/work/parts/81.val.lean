/-! ===== THE CLASS over the plain numbers: what asks ===== -/
def mlow (a : AS) (s : Nat) : Nat := sm (fun m => if s.testBit m then a_wt a m else 0) 5
def mupp (a : AS) (s : Nat) : Nat := sm (fun m => if s.testBit m then a_wt a (5 + m) else 0) 4
def VR (a : AS) (v : VD) : Prop := v_people v = nI (a_n a) ∧ v_year v = nI (a_y a) ∧ v_law v = nI (a_l a) ∧ (∀ m, m < 9 → v_weights v m = nI (a_wt a m) ∧ v_costs v m = nI (a_co a m)) ∧
  (∀ k, bt (v_living v) k = (decide (k < a_n a) && a_lv a k)) ∧ ((∀ s, s < 32 → v_lowerSums v s = nI (mlow a s)) ∧ (∀ s, s < 16 → v_upperSums v s = nI (mupp a s))) ∧
  ∀ k, k < a_n a → v_kinds v k = nI (a_kd a k) ∧ v_ages v k = nI (a_ag a k) ∧ v_goods v k = nI (a_gd a k) ∧ v_terms v k = nI (a_tm a k) ∧ v_children v k = enc (a_ch a k) ∧ LK (v_looks v k) (a_wy a k)
theorem and31 (x : Int32) : ∃ j, j < 32 ∧ x &&& 31 = nI j ∧ ∀ i, i < 5 → j.testBit i = bt x i := by
  refine ⟨x.toBitVec.toNat % 2 ^ 5, Nat.mod_lt _ (by decide), pk_and x 5 (by decide), ?_⟩
  intro i hi
  rw [Nat.testBit_mod_two_pow, decide_eq_true hi, Bool.true_and]
  rfl
theorem shr5 (x : Int32) (hx : ∀ i, 9 ≤ i → bt x i = false) : ∃ j, j < 16 ∧ x >>> ((5 : Int32) &&& 31) = nI j ∧ ∀ i, i < 4 → j.testBit i = bt x (i + 5) := by
  have hlt : x.toBitVec.toNat < 2 ^ 9 := Nat.lt_pow_two_of_testBit _ (fun i hi => hx i hi)
  have e : x = nI x.toBitVec.toNat := by
    apply b_ext
    intro i hi
    rw [b_nI _ hi]
    rfl
  refine ⟨x.toBitVec.toNat / 2 ^ 5, ?_, ?_, ?_⟩
  · omega
  · have z := pk_shrN (n := x.toBitVec.toNat) (by omega) ((5 : Int32) &&& 31) 5 (by decide)
    rw [← e] at z
    exact z
  · intro i hi
    rw [Nat.testBit_div_two_pow]
    rfl
theorem sm_split (f : Nat → Nat) (m : Nat) : ∀ n, sm f (m + n) = sm f m + sm (fun k => f (m + k)) n
  | 0 => rfl
  | n + 1 => by
    have h := sm_split f m n
    show sm f (m + n) + f (m + n) = sm f m + (sm (fun k => f (m + k)) n + f (m + n))
    omega
section VAL1
variable {N : Nat} {v : VD} {a : AS}
theorem v_lives (hI : Inv a) (hV : VR a v) {k : Nat} (hk : k < a_n a) : f_X3_lives N (nI k) v = some (if a_lv a k then 1 else 0) := by
  have hn := hI.1
  unfold f_X3_lives
  rw [b_sft _ k (by omega), hV.2.2.2.2.1 k, decide_eq_true hk, Bool.true_and]
  cases a_lv a k <;> rfl
theorem v_like (hI : Inv a) (hV : VR a v) {i j : Nat} (hi : i < a_n a) (hj : j < a_n a) : f_X3_likeness N (nI i) (nI j) v = some (nI (like a i j)) := by
  have hn := hI.1
  obtain ⟨v1, v2, v3, v4, v5, ⟨v6, v6'⟩, v7⟩ := hV
  obtain ⟨i1, i2, i3, i4, i5, i6⟩ := v7 i hi
  obtain ⟨j1, j2, j3, j4, j5, j6⟩ := v7 j hj
  have bi := (hI.2.2.2.2 i hi).2.2.2.2.2
  have bj := hI.2.2.2.2 j hj
  obtain ⟨u, hu, hub⟩ := x_unlike (N := N) i6 j6 (fun m hm => bi.2 m hm) (fun m hm => bj.2.2.2.2.2.2 m hm)
  have fin : ∀ x : Int32, (∀ q, q < 32 → bt x q = (decide (q < 9) && same a i j q)) → f_X3_likeness_J38 N v (nI i) (nI j) x = some (nI (like a i j)) := by
    intro x hx
    have hx9 : ∀ q, 9 ≤ q → bt x q = false := fun q hq => by
      rcases Nat.lt_or_ge q 32 with c | c
      · rw [hx q c, decide_eq_false (by omega), Bool.false_and]
      · exact b_big c
    obtain ⟨l, l1, l2, l3⟩ := and31 x
    obtain ⟨h, h1, h2, h3⟩ := shr5 x hx9
    have e : like a i j = mlow a l + mupp a h + (if a_l a = 1 ∧ a_ch a i = j + 1 then 5 else 0) := by
      unfold like mlow mupp
      rw [show (9 : Nat) = 5 + 4 from rfl, sm_split _ 5 4]
      congr 2
      · apply sm_cong
        intro k hk
        rw [l3 k hk, hx k (by omega), decide_eq_true (by omega), Bool.true_and]
      · apply sm_cong
        intro k hk
        rw [h3 k hk, hx (k + 5) (by omega), decide_eq_true (by omega), Bool.true_and, Nat.add_comm k 5]
    unfold f_X3_likeness_J38
    rw [l2, rd_nI l1 (by decide), some_bind', h2, rd_nI h1 (by decide), some_bind', lt_eq, v6 l l1, v6' h h1, nI_addn, v3]
    by_cases c : a_l a = 1
    · rw [if_pos (by rw [c]; rfl), rd_nI (by omega) (by decide), some_bind', i5]
      by_cases c2 : a_ch a i = j + 1
      · rw [if_pos (by rw [eq_comm, enc_eq (by have := bi.1; omega) (by omega)]; exact c2), e, if_pos ⟨c, c2⟩, lit_nI 5, nI_addn]
      · rw [if_neg (fun z => c2 (by rw [eq_comm, enc_eq (by have := bi.1; omega) (by omega)] at z; exact z)), e, if_neg (fun z => c2 z.2)]
        rfl
    · rw [if_neg (by rw [lit_nI 1, nI_eq_iff (by have := hI.2.2.1; omega) (by decide)]; exact c), e, if_neg (fun z => c z.1)]
      rfl
  unfold f_X3_likeness
  rw [rd_nI (by omega) (by decide), some_bind', rd_nI (by omega) (by decide), some_bind', hu, some_bind', lt_eq, rd_nI (by omega) (by decide), some_bind', j1]
  have hs : ∀ q, q < 32 → bt ((511 : Int32) &&& (u ^^^ (-1))) q = (decide (q < 9) && decide (a_wy a i q = a_wy a j q)) := by
    intro q hq
    rw [b_and, b_511 q hq, b_not u hq, hub q hq]
    by_cases c : q < 9
    · by_cases c2 : a_wy a i q = a_wy a j q <;> simp [c, c2]
    · simp [c]
  by_cases c : a_kd a j = 4
  · rw [if_pos (by rw [c]; rfl), lt_eq]
    apply fin
    intro q hq
    rw [b_or, hs q hq, b_256 q hq]
    unfold same
    by_cases c2 : q = 8
    · subst c2; simp [c]
    · by_cases c3 : a_wy a i q = a_wy a j q <;> simp [c2, c3]
  · rw [if_neg (by rw [lit_nI 4, nI_eq_iff (by have := bj.1; omega) (by decide)]; exact c)]
    apply fin
    intro q hq
    rw [hs q hq]
    unfold same
    have c' : (a_kd a j == 4) = false := by simp [c]
    by_cases c3 : a_wy a i q = a_wy a j q <;> simp [c', c3]
/-- heirFor: its loop -/
def vmost (a : AS) (i o : Nat) : Int32 := if o = 0 then -1 else nI (like a i (o - 1))
def veld (a : AS) (o : Nat) : Int32 := if o = 0 then -1 else nI (a_ag a (o - 1))
theorem v_heir_L (hI : Inv a) (hV : VR a v) {i : Nat} (hi : i < a_n a) : ∀ (t k n : Nat), k + t = a_n a → t < n →
    f_X3_heirFor_L10 N v n (nI i) (enc (hb a i i k)) (vmost a i (hb a i i k)) (veld a (hb a i i k)) (nI k) = some (enc (hb a i i (a_n a))) := by
  have hn := hI.1
  intro t
  induction t with
  | zero =>
    intro k n h1 h2
    obtain ⟨n', rfl⟩ : ∃ n', n = n' + 1 := ⟨n - 1, by omega⟩
    obtain rfl : k = a_n a := by omega
    rw [f_X3_heirFor_L10, hV.1, if_pos (nI_le (Nat.le_refl _) (by omega))]
  | succ t ih =>
    intro k n h1 h2
    obtain ⟨n', rfl⟩ : ∃ n', n = n' + 1 := ⟨n - 1, by omega⟩
    have hk : k < a_n a := by omega
    have ih' := ih (k + 1) n' (by omega) (by omega)
    have le := hb_le a i i k
    have g1 := (hI.2.2.2.2 k hk).2.1
    have l1 := like_le hI i k
    rw [f_X3_heirFor_L10, hV.1, if_neg (nI_ge hk (by omega))]
    rw [hb] at ih'
    by_cases c1 : k = i
    · rw [if_pos (by rw [c1]), lt_eq, nI_1]
      rw [if_pos (Or.inl c1)] at ih'
      exact ih'
    rw [if_neg (by rw [nI_eq_iff (by omega) (by omega)]; exact c1), v_lives hI hV hk, some_bind']
    cases c3 : a_lv a k with
    | false =>
      rw [if_pos (by rfl), lt_eq, nI_1]
      rw [if_pos (Or.inr (Or.inr c3))] at ih'
      exact ih'
    | true =>
      rw [if_neg (by decide), v_like hI hV hi hk, some_bind']
      rw [if_neg (show ¬ (k = i ∨ k = i ∨ a_lv a k = false) by rw [c3]; simp [c1])] at ih'
      have yes : (if hb a i i k = 0 ∨ like a i (hb a i i k - 1) < like a i k ∨ (like a i (hb a i i k - 1) = like a i k ∧ a_ag a (hb a i i k - 1) < a_ag a k) then k + 1 else hb a i i k) = k + 1 → f_X3_heirFor_J70 N v (f_X3_heirFor_L10 N v n') (nI i) (nI k) (nI (like a i k)) = some (enc (hb a i i (a_n a))) := by
        intro e
        rw [e] at ih'
        unfold f_X3_heirFor_J70
        rw [rd_nI (by omega) (by decide), some_bind', lt_eq, nI_1, (hV.2.2.2.2.2.2 k hk).2.1]
        rw [enc_s] at ih'
        exact ih'
      by_cases c4 : hb a i i k = 0
      · rw [c4] at yes ⊢
        rw [if_pos (show vmost a i 0 < nI (like a i k) from m1_lt _ (by omega))]
        exact yes (if_pos (Or.inl rfl))
      · obtain ⟨o, ho⟩ : ∃ o, hb a i i k = o + 1 := ⟨hb a i i k - 1, by omega⟩
        have ho' : o < a_n a := by omega
        have l2 := like_le hI i o
        have g2 := (hI.2.2.2.2 o ho').2.1
        have e1 : vmost a i (o + 1) = nI (like a i o) := rfl
        have e2 : veld a (o + 1) = nI (a_ag a o) := rfl
        rw [ho] at ih' yes ⊢
        rw [e1, e2]
        simp only [Nat.add_sub_cancel, Nat.succ_ne_zero, false_or] at ih' yes
        by_cases c5 : like a i o < like a i k
        · rw [if_pos (by rw [nI_lt_iff (by omega) (by omega)]; exact c5)]
          exact yes (if_pos (Or.inl c5))
        · rw [if_neg (by rw [nI_lt_iff (by omega) (by omega)]; exact c5)]
          by_cases c6 : like a i k = like a i o
          · rw [if_pos (by rw [c6]), rd_nI (by omega) (by decide), some_bind', (hV.2.2.2.2.2.2 k hk).2.1]
            by_cases c7 : a_ag a k ≤ a_ag a o
            · rw [if_pos (by rw [nI_le_iff (by omega) (by omega)]; exact c7), lt_eq, nI_1]
              rw [if_neg (by omega), e1, e2] at ih'
              exact ih'
            · rw [if_neg (by rw [nI_le_iff (by omega) (by omega)]; exact c7)]
              exact yes (if_pos (Or.inr ⟨c6.symm, by omega⟩))
          · rw [if_neg (by rw [nI_eq_iff (by omega) (by omega)]; exact c6), lt_eq, nI_1]
            rw [if_neg (by omega), e1, e2] at ih'
            exact ih'
theorem v_heir (hN : 5000 ≤ N) (hI : Inv a) (hV : VR a v) {i : Nat} (hi : i < a_n a) : f_X3_heirFor N (nI i) v = some (enc (heir a i)) := by
  have hn := hI.1
  unfold f_X3_heirFor
  exact v_heir_L hI hV hi (a_n a) 0 N (by omega) (by omega)
end VAL1
