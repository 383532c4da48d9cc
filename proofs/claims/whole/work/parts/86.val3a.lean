/-! ===== THE CLASS: single changes of the valley ===== -/
section UPV
variable {a : AS} {v : VD}
theorem VR.kd (h : VR a v) {i : Nat} (x : Nat) : VR (a_set_kd a (va_up (a_kd a) i x)) (v_set_kinds v (upd (v_kinds v) i (nI x))) := by
  obtain ⟨h1, h2, h3, h4, h5, h6, h7⟩ := h
  refine ⟨h1, h2, h3, h4, h5, h6, fun k hk => ?_⟩
  obtain ⟨q0, q1, q2, q3, q4, q5⟩ := h7 k hk
  refine ⟨?_, q1, q2, q3, q4, q5⟩
  show upd (v_kinds v) i (nI x) k = nI (va_up (a_kd a) i x k)
  by_cases c : k = i
  · subst c; rw [va_up_s]; exact pk_us
  · rw [va_up_n _ x c]; exact (pk_un c).trans q0
theorem VR.ag (h : VR a v) {i : Nat} (x : Nat) : VR (a_set_ag a (va_up (a_ag a) i x)) (v_set_ages v (upd (v_ages v) i (nI x))) := by
  obtain ⟨h1, h2, h3, h4, h5, h6, h7⟩ := h
  refine ⟨h1, h2, h3, h4, h5, h6, fun k hk => ?_⟩
  obtain ⟨q0, q1, q2, q3, q4, q5⟩ := h7 k hk
  refine ⟨q0, ?_, q2, q3, q4, q5⟩
  show upd (v_ages v) i (nI x) k = nI (va_up (a_ag a) i x k)
  by_cases c : k = i
  · subst c; rw [va_up_s]; exact pk_us
  · rw [va_up_n _ x c]; exact (pk_un c).trans q1
theorem VR.gd (h : VR a v) {i : Nat} (x : Nat) : VR (a_set_gd a (va_up (a_gd a) i x)) (v_set_goods v (upd (v_goods v) i (nI x))) := by
  obtain ⟨h1, h2, h3, h4, h5, h6, h7⟩ := h
  refine ⟨h1, h2, h3, h4, h5, h6, fun k hk => ?_⟩
  obtain ⟨q0, q1, q2, q3, q4, q5⟩ := h7 k hk
  refine ⟨q0, q1, ?_, q3, q4, q5⟩
  show upd (v_goods v) i (nI x) k = nI (va_up (a_gd a) i x k)
  by_cases c : k = i
  · subst c; rw [va_up_s]; exact pk_us
  · rw [va_up_n _ x c]; exact (pk_un c).trans q2
theorem VR.tm (h : VR a v) {i : Nat} (x : Nat) : VR (a_set_tm a (va_up (a_tm a) i x)) (v_set_terms v (upd (v_terms v) i (nI x))) := by
  obtain ⟨h1, h2, h3, h4, h5, h6, h7⟩ := h
  refine ⟨h1, h2, h3, h4, h5, h6, fun k hk => ?_⟩
  obtain ⟨q0, q1, q2, q3, q4, q5⟩ := h7 k hk
  refine ⟨q0, q1, q2, ?_, q4, q5⟩
  show upd (v_terms v) i (nI x) k = nI (va_up (a_tm a) i x k)
  by_cases c : k = i
  · subst c; rw [va_up_s]; exact pk_us
  · rw [va_up_n _ x c]; exact (pk_un c).trans q3
theorem VR.ch (h : VR a v) {i : Nat} (x : Nat) : VR (a_set_ch a (va_up (a_ch a) i x)) (v_set_children v (upd (v_children v) i (enc x))) := by
  obtain ⟨h1, h2, h3, h4, h5, h6, h7⟩ := h
  refine ⟨h1, h2, h3, h4, h5, h6, fun k hk => ?_⟩
  obtain ⟨q0, q1, q2, q3, q4, q5⟩ := h7 k hk
  refine ⟨q0, q1, q2, q3, ?_, q5⟩
  show upd (v_children v) i (enc x) k = enc (va_up (a_ch a) i x k)
  by_cases c : k = i
  · subst c; rw [va_up_s]; exact pk_us
  · rw [va_up_n _ x c]; exact (pk_un c).trans q4
theorem VR.wy (h : VR a v) {i : Nat} {w : Nat → Nat} {L : Int32} (hL : LK L w) : VR (a_set_wy a (va_up (a_wy a) i w)) (v_set_looks v (upd (v_looks v) i L)) := by
  obtain ⟨h1, h2, h3, h4, h5, h6, h7⟩ := h
  refine ⟨h1, h2, h3, h4, h5, h6, fun k hk => ?_⟩
  obtain ⟨q0, q1, q2, q3, q4, q5⟩ := h7 k hk
  refine ⟨q0, q1, q2, q3, q4, ?_⟩
  show LK (upd (v_looks v) i L k) (va_up (a_wy a) i w k)
  by_cases c : k = i
  · subst c; rw [va_up_s, pk_us]; exact hL
  · rw [va_up_n _ w c, pk_un c]; exact q5
theorem VR.lv (h : VR a v) {f : Nat → Bool} {L : Int32} (hL : ∀ k, bt L k = (decide (k < a_n a) && f k)) : VR (a_set_lv a f) (v_set_living v L) := by
  obtain ⟨h1, h2, h3, h4, h5, h6, h7⟩ := h
  exact ⟨h1, h2, h3, h4, hL, h6, h7⟩
theorem VR.y (h : VR a v) (x : Nat) : VR (a_set_y a x) (v_set_year v (nI x)) := by
  obtain ⟨h1, h2, h3, h4, h5, h6, h7⟩ := h
  exact ⟨h1, rfl, h3, h4, h5, h6, h7⟩
theorem VR.l (h : VR a v) (x : Nat) : VR (a_set_l a x) (v_set_law v (nI x)) := by
  obtain ⟨h1, h2, h3, h4, h5, h6, h7⟩ := h
  exact ⟨h1, h2, rfl, h4, h5, h6, h7⟩
theorem VR.co (h : VR a v) {m' : Nat} (x : Nat) : VR (a_set_co a (va_up (a_co a) m' x)) (v_set_costs v (upd (v_costs v) m' (nI x))) := by
  obtain ⟨h1, h2, h3, h4, h5, h6, h7⟩ := h
  refine ⟨h1, h2, h3, fun m hm => ⟨(h4 m hm).1, ?_⟩, h5, h6, h7⟩
  show upd (v_costs v) m' (nI x) m = nI (va_up (a_co a) m' x m)
  by_cases c : m = m'
  · subst c; rw [va_up_s]; exact pk_us
  · rw [va_up_n _ x c]; exact (pk_un c).trans (h4 m hm).2
theorem VR.gb (h : VR a v) (g : Nat → Int32) : VR a (v_set_gotBy v g) := h
theorem VR.dy (h : VR a v) (g : Nat → Int32) : VR a (v_set_deathYears v g) := h
end UPV
theorem as_lv2 (a : AS) (f g : Nat → Bool) : a_set_lv (a_set_lv a f) g = a_set_lv a g := rfl
theorem as_lv_id (a : AS) : a_set_lv a (a_lv a) = a := rfl
theorem as_wy2 (a : AS) (f g : Nat → Nat → Nat) : a_set_wy (a_set_wy a f) g = a_set_wy a g := rfl
theorem as_wy_id (a : AS) : a_set_wy a (a_wy a) = a := rfl
theorem as_gd2 (a : AS) (f g : Nat → Nat) : a_set_gd (a_set_gd a f) g = a_set_gd a g := rfl
theorem as_kd2 (a : AS) (f g : Nat → Nat) : a_set_kd (a_set_kd a f) g = a_set_kd a g := rfl
theorem as_ag_id (a : AS) : a_set_ag a (a_ag a) = a := rfl
theorem va_up_id {α : Type} (f : Nat → α) (k : Nat) : va_up f k (f k) = f := by
  funext j
  unfold va_up
  by_cases c : j = k
  · rw [if_pos c, c]
  · rw [if_neg c]
theorem va_up_comm {α : Type} (f : Nat → α) {h o : Nat} (x y : α) (hne : h ≠ o) : va_up (va_up f o y) h x = va_up (va_up f h x) o y := by
  funext j
  unfold va_up
  by_cases c : j = h
  · subst c; simp [hne]
  · simp [c]
theorem b_clr (x : Int32) (i : Nat) (hi : i < 32) (k : Nat) : bt (x &&& (((1 : Int32) <<< (nI i &&& 31)) ^^^ (-1))) k = (bt x k && decide (k ≠ i)) := by
  rcases Nat.lt_or_ge k 32 with h | h
  · rw [b_and, b_not _ h, b_pow i hi h]
    by_cases c : k = i <;> simp [c]
  · rw [b_big h, b_big h, Bool.false_and]
theorem b_set (x : Int32) (i : Nat) (hi : i < 32) (k : Nat) : bt (x ||| ((1 : Int32) <<< (nI i &&& 31))) k = (bt x k || decide (k = i)) := by
  rcases Nat.lt_or_ge k 32 with h | h
  · rw [b_or, b_pow i hi h]
  · rw [b_big h, b_big h, decide_eq_false (show ¬ k = i by omega)]; rfl
theorem x_in (N : Nat) (x lo hi : Int32) : f_X4_isWithin N x lo hi = some (if lo ≤ x ∧ x ≤ hi then 1 else 0) := by
  unfold f_X4_isWithin
  by_cases c1 : x < lo
  · rw [if_pos c1, if_neg (fun z => by have z1 := z.1; rw [fa_le'] at z1; rw [fa_lt'] at c1; omega)]
  · rw [if_neg c1]
    by_cases c2 : hi < x
    · rw [if_pos c2, if_neg (fun z => by have z1 := z.2; rw [fa_le'] at z1; rw [fa_lt'] at c2; omega)]
    · rw [if_neg c2, if_pos ⟨by rw [fa_lt'] at c1; rw [fa_le']; omega, by rw [fa_lt'] at c2; rw [fa_le']; omega⟩]
theorem x_in1 (N : Nat) {k m : Nat} (h : k ≤ m) (hm : m < 2147483648) : f_X4_isWithin N (nI k) 0 (nI m) = some 1 := by
  rw [x_in, if_pos ⟨nI_pos' (by omega), nI_le h (by omega)⟩]
def KE (v v' : VD) : Prop := v_children v' = v_children v ∧ v_gotBy v' = v_gotBy v ∧ v_deathYears v' = v_deathYears v
theorem KE.rf (v : VD) : KE v v := ⟨rfl, rfl, rfl⟩
theorem KE.kd (v : VD) (L) : KE v (v_set_kinds v L) := ⟨rfl, rfl, rfl⟩
theorem KE.ag (v : VD) (L) : KE v (v_set_ages v L) := ⟨rfl, rfl, rfl⟩
theorem KE.gd (v : VD) (L) : KE v (v_set_goods v L) := ⟨rfl, rfl, rfl⟩
theorem KE.tm (v : VD) (L) : KE v (v_set_terms v L) := ⟨rfl, rfl, rfl⟩
theorem KE.wy (v : VD) (L) : KE v (v_set_looks v L) := ⟨rfl, rfl, rfl⟩
theorem KE.lv (v : VD) (L) : KE v (v_set_living v L) := ⟨rfl, rfl, rfl⟩
theorem KE.l (v : VD) (L) : KE v (v_set_law v L) := ⟨rfl, rfl, rfl⟩
theorem KE.y (v : VD) (L) : KE v (v_set_year v L) := ⟨rfl, rfl, rfl⟩
theorem KE.wt (v : VD) (L) : KE v (v_set_weights v L) := ⟨rfl, rfl, rfl⟩
theorem KE.co (v : VD) (L) : KE v (v_set_costs v L) := ⟨rfl, rfl, rfl⟩
theorem KE.lo (v : VD) (L) : KE v (v_set_lowerSums v L) := ⟨rfl, rfl, rfl⟩
theorem KE.up (v : VD) (L) : KE v (v_set_upperSums v L) := ⟨rfl, rfl, rfl⟩
theorem KE.tr {u v w : VD} (h : KE u v) (k : KE v w) : KE u w := ⟨k.1.trans h.1, k.2.1.trans h.2.1, k.2.2.trans h.2.2⟩
theorem hb_dead (a : AS) (i b : Nat) : ∀ k, hb a i b k = hb (dead a b) i i k
  | 0 => rfl
  | k + 1 => by
    have ih := hb_dead a i b k
    have e : (k = i ∨ k = b ∨ a_lv a k = false) = (k = i ∨ k = i ∨ a_lv (dead a b) k = false) := by
      apply propext
      show _ ↔ (k = i ∨ k = i ∨ va_up (a_lv a) b false k = false)
      by_cases c : k = b
      · subst c; rw [va_up_s]; simp
      · rw [va_up_n _ _ c]; simp [c]
    rw [hb, hb, ih]
    simp only [e]
    rfl
theorem gain_comm (a : AS) {h o : Nat} (x y : Nat) (hne : h ≠ o) : gain (gain a o y) h x = gain (gain a h x) o y := by
  have e1 : a_gd (gain a o y) h = a_gd a h := va_up_n _ _ hne
  have e2 : a_gd (gain a h x) o = a_gd a o := va_up_n _ _ (Ne.symm hne)
  show a_set_gd (gain a o y) (va_up (a_gd (gain a o y)) h (if 999999 < a_gd (gain a o y) h + x then 999999 else a_gd (gain a o y) h + x)) = a_set_gd (gain a h x) (va_up (a_gd (gain a h x)) o (if 999999 < a_gd (gain a h x) o + y then 999999 else a_gd (gain a h x) o + y))
  rw [e1, e2]
  have e3 := va_up_comm (a_gd a) (h := h) (o := o) (if 999999 < a_gd a h + x then 999999 else a_gd a h + x) (if 999999 < a_gd a o + y then 999999 else a_gd a o + y) hne
  unfold gain setg
  rw [as_gd2, as_gd2, a_gd_sgd, a_gd_sgd, e3]
section VAL3
variable {N : Nat} {v : VD} {a : AS}
theorem v_carry (hN : 5000 ≤ N) (hI : Inv a) (hV : VR a v) {i : Nat} (hi : i < a_n a) : ∃ v', f_X3_carryOut N (nI i) (plan a i) v = some v' ∧ VR (alter a i) v' ∧ KE v v' := by
  have hn := hI.1
  have hc := chg_le a i
  unfold f_X3_carryOut alter plan
  by_cases c : chg a i = 0
  · rw [if_pos c, if_pos c, lt_eq, if_pos rfl]
    exact ⟨v, rfl, hV, KE.rf v⟩
  rw [if_neg c, if_neg c, lt_eq]
  obtain ⟨m, hm⟩ : ∃ m, chg a i = m + 1 := ⟨chg a i - 1, by omega⟩
  rw [hm, Nat.add_sub_cancel]
  have hm9 : m < 9 := by omega
  have hco := chg_co c
  rw [hm, Nat.add_sub_cancel] at hco
  have hnw : neww a i m ≤ 3 := neww_le hI hi hm9 (fun k => chg_aim c k)
  obtain ⟨i1, i2, i3, i4, i5, i6⟩ := hV.2.2.2.2.2.2 i hi
  have hg := (hI.2.2.2.2 i hi).2.2.1
  have d1 : nI (10 * m + neww a i m) / (10 : Int32) = nI m := by
    rw [lit_nI 10, pk_div (by omega) (by omega) (by omega), show (10 * m + neww a i m) / 10 = m by omega]
  have d2 : nI (10 * m + neww a i m) - nI (10 * m + neww a i m) / (10 : Int32) * (10 : Int32) = nI (neww a i m) := by
    rw [lit_nI 10, pk_rem (by omega) (by omega) (by omega), show (10 * m + neww a i m) % 10 = neww a i m by omega]
  obtain ⟨R, w1, w2⟩ := x_withWay (N := N) i6 hm9 hnw
  rw [if_neg (nI_ne_m1 _ (by omega)), d2, d1, lit_nI 8, x_in1 N (by omega) (by decide), some_bind', if_neg (by decide), rd_nI (by omega) (by decide), some_bind', w1, some_bind', ck_nI (by omega) (by decide), some_bind', lt_eq, nI_clamp (by omega)]
  have hV1 : VR (setw a i m (neww a i m)) (v_set_looks v (upd (v_looks v) i R)) := hV.wy w2
  have k1 : KE v (v_set_looks v (upd (v_looks v) i R)) := ⟨rfl, rfl, rfl⟩
  generalize v_set_looks v (upd (v_looks v) i R) = d1 at hV1 k1 ⊢
  have g1 : v_goods d1 i = nI (a_gd a i) := (hV1.2.2.2.2.2.2 i hi).2.2.1
  have g2 : v_costs d1 m = nI (a_co a m) := (hV1.2.2.2.1 m hm9).2
  rw [rd_nI (by omega) (by decide), some_bind', rd_nI (by omega) (by decide), some_bind', ck_nI (by omega) (by decide), some_bind', lt_eq, g1, g2, pk_sub hco]
  exact ⟨_, rfl, hV1.gd _, k1.tr (KE.gd _ _)⟩
theorem v_give (hI : Inv a) (hV : VR a v) {i x : Nat} (hi : i < a_n a) (hx : x ≤ 999999) : ∃ v', f_X3_give N (nI i) (nI x) v = some v' ∧ VR (gain a i x) v' ∧ KE v v' := by
  have hn := hI.1
  have hg := (hI.2.2.2.2 i hi).2.2.1
  unfold f_X3_give
  rw [rd_nI (by omega) (by decide), some_bind', ck_nI (by omega) (by decide), some_bind', lt_eq, nI_clamp (by omega), (hV.2.2.2.2.2.2 i hi).2.2.1, nI_addn]
  have e : (if nI (a_gd a i + x) < (999999 : Int32) then nI (a_gd a i + x) else (999999 : Int32)) = nI (if 999999 < a_gd a i + x then 999999 else a_gd a i + x) := by
    have e2 : (nI (a_gd a i + x) < (999999 : Int32)) = (a_gd a i + x < 999999) := nI_lt_iff (by omega) (by decide)
    by_cases c : 999999 < a_gd a i + x
    · rw [if_neg (by rw [e2]; omega), if_pos c]; rfl
    · rw [if_neg c]
      by_cases c2 : a_gd a i + x < 999999
      · rw [if_pos (by rw [e2]; exact c2)]
      · rw [if_neg (by rw [e2]; exact c2), lit_nI 999999]; congr 1; omega
  rw [e]
  exact ⟨_, rfl, hV.gd _, KE.gd _ _⟩
theorem v_dead (hI : Inv a) (hV : VR a v) {i : Nat} (hi : i < a_n a) : VR (dead a i) (v_set_living v ((v_living v) &&& (((1 : Int32) <<< (nI i &&& 31)) ^^^ (-1 : Int32)))) := by
  have hn := hI.1
  apply hV.lv
  intro k
  rw [b_clr _ i (by omega), hV.2.2.2.2.1 k]
  by_cases c : k = i
  · subst c; rw [va_up_s]; simp
  · rw [va_up_n _ _ c]; simp [c]
end VAL3
