section VAL3c
variable {N : Nat} {v : VD} {a : AS}
theorem v_die (hN : 5000 ≤ N) (hI : Inv a) (hV : VR a v) {i : Nat} (hi : i < a_n a) : ∃ v', f_X3_letDie N (nI i) v = some (enc (heir (dead a i) i), v') ∧ VR (die a i) v' ∧ v_children v' = v_children v ∧ v_gotBy v' = upd (v_gotBy v) i (enc (heir (dead a i) i)) ∧ v_deathYears v' = v_deathYears v := by
  have hn := hI.1
  have hg := (hI.2.2.2.2 i hi).2.2.1
  have hI1 : Inv (dead a i) := hI
  have hV1 := v_dead hI hV hi
  have hl := heir_le (dead a i) i
  have hln : a_n (dead a i) = a_n a := rfl
  have hI2 : Inv (setg (dead a i) i 0) := hI1.gd (by omega)
  unfold f_X3_letDie
  rw [lt_eq]
  have kd1 : KE v (v_set_living v ((v_living v) &&& (((1 : Int32) <<< (nI i &&& 31)) ^^^ (-1 : Int32)))) := ⟨rfl, rfl, rfl⟩
  generalize v_set_living v ((v_living v) &&& (((1 : Int32) <<< (nI i &&& 31)) ^^^ (-1 : Int32))) = d1 at kd1 hV1 ⊢
  have g1 : v_goods d1 i = nI (a_gd a i) := (hV1.2.2.2.2.2.2 i hi).2.2.1
  rw [v_heir hN hI1 hV1 hi, some_bind', rd_nI (by omega) (by decide), some_bind', ck_nI (by omega) (by decide), some_bind', nI_clamp (by omega), g1, lt_eq]
  have hV6 : VR (setg (dead a i) i 0) (v_set_goods d1 (upd (v_goods d1) i 0)) := hV1.gd (i := i) 0
  have kd6 : KE d1 (v_set_goods d1 (upd (v_goods d1) i 0)) := ⟨rfl, rfl, rfl⟩
  generalize v_set_goods d1 (upd (v_goods d1) i 0) = d6 at kd6 hV6 ⊢
  have k6 := kd1.tr kd6
  rw [some_bind', lt_eq]
  have hV2 : VR (setg (dead a i) i 0) (v_set_gotBy d6 (upd (v_gotBy d6) i (enc (heir (dead a i) i)))) := hV6.gb _
  have k1 : v_children (v_set_gotBy d6 (upd (v_gotBy d6) i (enc (heir (dead a i) i)))) = v_children v := k6.1
  have k2 : v_gotBy (v_set_gotBy d6 (upd (v_gotBy d6) i (enc (heir (dead a i) i)))) = upd (v_gotBy v) i (enc (heir (dead a i) i)) := by rw [← k6.2.1]; rfl
  have k3 : v_deathYears (v_set_gotBy d6 (upd (v_gotBy d6) i (enc (heir (dead a i) i)))) = v_deathYears v := k6.2.2
  generalize v_set_gotBy d6 (upd (v_gotBy d6) i (enc (heir (dead a i) i))) = d8 at hV2 k1 k2 k3 ⊢
  unfold die
  by_cases c : heir (dead a i) i = 0
  · rw [if_pos (by rw [enc_m1 (by omega)]; exact c), if_pos c]
    rw [c] at k2 ⊢
    exact ⟨d8, rfl, hV2, k1, k2, k3⟩
  rw [if_neg (by rw [enc_m1 (by omega)]; exact c), if_neg c]
  have hlive := hb_lv (dead a i) i i (a_n a) c
  obtain ⟨h, hh⟩ : ∃ h, heir (dead a i) i = h + 1 := ⟨heir (dead a i) i - 1, by omega⟩
  have hlive : a_lv (dead a i) h = true := by
    have e : hb (dead a i) i i (a_n a) = h + 1 := hh
    rw [e, Nat.add_sub_cancel] at hlive
    exact hlive
  rw [hh] at k2 ⊢
  rw [Nat.add_sub_cancel, enc_s] at *
  have hh' : h < a_n a := by omega
  have gen : ∀ (o : Nat) (dd : VD), o ≤ a_n a → o ≠ h + 1 → VR (setg (dead a i) i 0) dd → KE d8 dd → ∃ v', f_X3_letDie_J66 N (nI h) (nI (a_gd a i)) (enc o) dd = some (nI h, v') ∧ VR (if o = 0 then gain (setg (dead a i) i 0) h (a_gd a i) else gain (gain (setg (dead a i) i 0) h (a_gd a i - a_gd a i / 2)) (o - 1) (a_gd a i / 2)) v' ∧ KE d8 v' := by
    intro o dd ho hne hVd hKd
    unfold f_X3_letDie_J66 f_X3_letDie_J90
    by_cases co : o = 0
    · rw [if_pos (by rw [enc_m1 (by omega)]; exact co), if_pos co, lit_nI 0, pk_sub (by omega), Nat.sub_zero]
      obtain ⟨v', q1, q2, q3⟩ := v_give (N := N) hI2 hVd (i := h) (x := a_gd a i) hh' (by omega)
      rw [q1, some_bind']
      exact ⟨v', rfl, q2, hKd.tr q3⟩
    · rw [if_neg (by rw [enc_m1 (by omega)]; exact co), if_neg co, lt_eq, show (2 : Int32) = nI 2 from rfl, pk_div (by omega) (by omega) (by omega), pk_sub (by omega), enc_pos co]
      obtain ⟨v1, q1, q2, q3⟩ := v_give (N := N) hI2 hVd (i := o - 1) (x := a_gd a i / 2) (show o - 1 < a_n a by omega) (by omega)
      rw [q1, some_bind']
      obtain ⟨v2, r1, r2, r3⟩ := v_give (N := N) (gain_inv hI2 (o - 1) (a_gd a i / 2)) q2 (i := h) (x := a_gd a i - a_gd a i / 2) hh' (by omega)
      rw [r1, some_bind']
      rw [gain_comm _ _ _ (by omega)] at r2
      exact ⟨v2, rfl, r2, (hKd.tr q3).tr r3⟩
  have ml : v_law d8 = nI (a_l a) := hV2.2.2.1
  rw [ml]
  by_cases c2 : a_l a = 2
  · obtain ⟨dw, w1, w2, w3⟩ := v_without hN hI2 hV2 (i := i) (h := h) hi hh' hlive
    rw [if_pos (by rw [c2]; rfl), w1, bd2_some, hb_setg]
    have hbl : hb (dead a i) i h (a_n (setg (dead a i) i 0)) ≤ a_n a := hb_le _ _ _ _
    have hbn := (hb_ne (dead a i) i h (a_n (setg (dead a i) i 0))).2
    obtain ⟨v', q1, q2, q3⟩ := gen (hb (dead a i) i h (a_n (setg (dead a i) i 0))) dw hbl hbn w2 w3
    refine ⟨v', q1, ?_, q3.1.trans k1, q3.2.1.trans k2, q3.2.2.trans k3⟩
    have en : a_n (setg (dead a i) i 0) = a_n a := rfl
    rw [en] at q2
    by_cases c3 : hb (dead a i) i h (a_n a) = 0
    · rw [if_pos c3] at q2
      rw [if_neg (fun z => z.2 c3)]
      exact q2
    · rw [if_neg c3] at q2
      rw [if_pos ⟨c2, c3⟩]
      exact q2
  · rw [if_neg (by rw [lit_nI 2, nI_eq_iff (by have := hI.2.2.1; omega) (by decide)]; exact c2)]
    obtain ⟨v', q1, q2, q3⟩ := gen 0 d8 (by omega) (by omega) hV2 (KE.rf d8)
    rw [if_pos rfl] at q2
    rw [if_neg (fun z => c2 z.1)]
    exact ⟨v', q1, q2, q3.1.trans k1, q3.2.1.trans k2, q3.2.2.trans k3⟩
end VAL3c
