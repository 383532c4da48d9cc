section VAL3b
variable {N : Nat} {v : VD} {a : AS}
theorem VR.lv' {g : Nat → Bool} {L : Int32} (h : VR (a_set_lv a g) v) (hL : ∀ k, bt L k = (decide (k < a_n a) && a_lv a k)) : VR a (v_set_living v L) := by
  obtain ⟨h1, h2, h3, h4, h5, h6, h7⟩ := h
  exact ⟨h1, h2, h3, h4, hL, h6, h7⟩
theorem v_without0 (hN : 5000 ≤ N) (hI : Inv a) (hV : VR a v) {i h : Nat} (hi : i < a_n a) (hh : h < a_n a) : f_X3_heirFor N (nI i) (v_set_living v ((v_living v) &&& (((1 : Int32) <<< (nI h &&& 31)) ^^^ (-1 : Int32)))) = some (enc (hb a i h (a_n a))) := by
  have hV1 := v_dead hI hV hh
  have hI1 : Inv (dead a h) := hI
  have e : hb a i h (a_n a) = heir (dead a h) i := by
    rw [hb_dead a i h (a_n a)]; unfold heir; rfl
  rw [e]
  exact v_heir hN hI1 hV1 hi
theorem v_without (hN : 5000 ≤ N) (hI : Inv a) (hV : VR a v) {i h : Nat} (hi : i < a_n a) (hh : h < a_n a) (hl : a_lv a h = true) : ∃ v', f_X3_heirWithout N (nI i) (nI h) v = some (enc (hb a i h (a_n a)), v') ∧ VR a v' ∧ KE v v' := by
  have hn := hI.1
  have hV1 := v_dead hI hV hh
  have w0 := v_without0 hN hI hV hi hh
  unfold f_X3_heirWithout
  rw [lt_eq, w0, some_bind', lt_eq]
  have kd1 : KE v (v_set_living v ((v_living v) &&& (((1 : Int32) <<< (nI h &&& 31)) ^^^ (-1 : Int32)))) := ⟨rfl, rfl, rfl⟩
  have ld1 : v_living (v_set_living v ((v_living v) &&& (((1 : Int32) <<< (nI h &&& 31)) ^^^ (-1 : Int32)))) = (v_living v) &&& (((1 : Int32) <<< (nI h &&& 31)) ^^^ (-1 : Int32)) := rfl
  generalize v_set_living v ((v_living v) &&& (((1 : Int32) <<< (nI h &&& 31)) ^^^ (-1 : Int32))) = d1 at kd1 ld1 hV1 ⊢
  have hL : ∀ k, bt (v_living d1 ||| ((1 : Int32) <<< (nI h &&& 31))) k = (decide (k < a_n a) && a_lv a k) := fun k => by
    rw [b_set _ h (by omega), ld1, b_clr _ h (by omega), hV.2.2.2.2.1 k]
    by_cases c : k = h
    · rw [c, hl, decide_eq_true hh, decide_eq_true (rfl : h = h), Bool.or_true]; rfl
    · rw [decide_eq_true c, decide_eq_false c, Bool.and_true, Bool.or_false]
  have z : VR a (v_set_living d1 (v_living d1 ||| ((1 : Int32) <<< (nI h &&& 31)))) := VR.lv' hV1 hL
  exact ⟨v_set_living d1 (v_living d1 ||| ((1 : Int32) <<< (nI h &&& 31))), rfl, z, kd1.tr (KE.lv d1 _)⟩
end VAL3b
