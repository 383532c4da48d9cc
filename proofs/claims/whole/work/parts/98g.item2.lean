/-! ===== THE TEXT: people, marks, laws ===== -/
theorem newP_wy (a : AS) (kd ag : Nat) : a_wy (newP a kd ag) (a_n a) = fun _ => 0 := va_up_s _ _ _
section ITEM2
variable {N : Nat} {b : Nat → Nat} {n : Nat} {T : TD} {d : MD} {o : VD} {a : AS} {k f e v u p L : Nat}
theorem l9 : (999999999 : Int32).toInt = ((1000000000 : Nat) : Int) - 1 := by decide
theorem m1_0 : (-1 : Int32).toInt = ((0 : Nat) : Int) - 1 := by decide
/-- the look is read on both sides -/
theorem i_like (hN : 5000 ≤ N) (hT : BTx b n T) (hTm : BTm b n d) (hn : a_n a = p + 1) (h0 : a_wy a p = fun _ => 0) (hI : Inv a) (hV : VR a o) (hS : SR a (m_s d)) (hF : TF b n k f e u v) (hM : MS d k f e v) (hL : L ≤ f) :
    IR b n T L o d ((f_X2_lookHere N ((T, nI k, nI f, nI e, nI u, 0) : RD)).bind fun x11 => (ck (nI p) 13).bind fun _ => lt (v_set_looks o (upd (v_looks o) (nI p).toNatClampNeg x11)) fun o14 => if x11 = (-1 : Int32) then f_X2_readPerson_J59 N (nI p) (0 : Int32) (-1 : Int32) ((T, nI k, nI f, nI e, nI u, 0) : RD) o14 else f_X2_readPerson_J59 N (nI p) (0 : Int32) (999999999 : Int32) ((T, nI k, nI f, nI e, nI u, 0) : RD) o14)
      (bd2 (f_X5_waysCome N (nI p) d) fun x14 d15 => if x14 = 0 then some ((0 : Int32), d15) else f_X5_personHere_J64 N (nI p) (nI (21 + 15 * p)) d15) := by
  have h12 := hI.1
  have fe := hF.1
  have en := hF.2.1
  obtain ⟨R, r1, r2, r3⟩ := x_lookHere (N := N) (kk := nI k) (uu := nI u) (gg := 0) hN hT fe en
  rw [r1, some_bind', ck_nI (by omega) (by decide), some_bind', lt_eq, nI_clamp (by omega)]
  unfold f_X2_readPerson_J59 f_X5_waysCome
  have x1 := x_num (N := N) hN hT hF (lo := 0) (h1 := 0) (H := -1) m1_0 (by omega) (by omega)
  have x1 : f_X2_takeNumber N 0 (-1) ((T, nI k, nI f, nI e, nI u, 0) : RD) = _ := x1
  have x9 := x_num (N := N) hN hT hF (lo := 0) (h1 := 1000000000) (H := 999999999) l9 (by omega) (by omega)
  have x9 : f_X2_takeNumber N 0 999999999 ((T, nI k, nI f, nI e, nI u, 0) : RD) = _ := x9
  rw [x1, x9, if_neg (show ¬ (k = 2 ∧ 0 ≤ v ∧ v < 0) by omega), bd2_some, f63 rfl, hM.1, hM.2.2.2, m_fails hM, bd2_some, ckz01 (Or.inl rfl), some_bind', lt_eq, hM.2.2.1]
  have vb : v ≤ 2000000000 := by have := hF.2.2.2.2.2; unfold VN at this; omega
  have bad : ∀ (y : Int32) (d1 : MD), KB d d1 → IR b n T L o d (some (((T, nI k, nI f, nI e, nI u, 1) : RD), v_set_looks o (upd (v_looks o) p y))) (some (0, m_set_faultAt d1 (nI f))) := fun y d1 hk => IR.bad rfl hk (Nat.le_trans fe en)
  by_cases c1 : k = 2
  · subst c1
    rw [if_pos (show nI 2 = (2 : Int32) from rfl)]
    by_cases c2 : v ≤ 999999999
    · rw [if_pos (show nI v ≤ (999999999 : Int32) from nI_le c2 (by decide)), if_pos (show 2 = 2 ∧ 0 ≤ v ∧ v < 1000000000 from ⟨rfl, by omega, by omega⟩), bd2_some]
      have e0 : dgw b e 0 = fun _ => 0 := by funext q; unfold dgw; rw [if_neg (by omega)]
      obtain ⟨w1, w2⟩ := m_ways_dig (N := N) (b := b) (p := p) hN hI (by omega) h0 hF (e - f) 0 N d (by omega) (by have := hTm.1; omega) hTm hM (fun i i1 i2 => by omega) (by rw [e0, ← h0, wset_id]; exact hS)
      rw [show f + (e - f) = e by omega] at w1 w2
      by_cases c3 : dok b f e
      · have hR := r2 c3
        obtain ⟨d', v1, v2, v3, v4⟩ := w1 c3
        have hIw : Inv (wset a p (dgw b e (e - f))) := wset_inv hI (fun q hq => by
          unfold dgw
          split
          · have := c3 (e - 1 - q) (by omega) (by omega); omega
          · omega)
        rw [if_neg (LK_m1 hR), v1, bd2_some, if_neg (by decide)]
        have hF1 := tok_ok (b := b) en
        have hL1 : L ≤ nf b n e := Nat.le_trans hL (Nat.le_trans fe (nf_ok (b := b) en).1)
        exact (i63 hN hT (hTm.kb v2) (a := wset a p (dgw b e (e - f))) hn hIw (hV.wy hR) v3 hF1 v4 hL1).mv rfl v2
      · obtain ⟨d', v1, v2⟩ := w2 c3
        rw [if_pos (r3 c3), v1, bd2_some, if_pos rfl]
        exact bad R d' v2
    · rw [if_neg (show ¬ nI v ≤ (999999999 : Int32) from nI_ge (show 999999999 < v by omega) (by omega)), if_neg (show ¬ (2 = 2 ∧ 0 ≤ v ∧ v < 1000000000) by omega), bd2_some, f63 rfl, bd2_some, if_pos rfl]
      split
      · exact bad R d (KB.rf d)
      · exact bad R d (KB.rf d)
  · rw [if_neg (show ¬ nI k = (2 : Int32) by rw [lit_nI 2, nI_eq_iff (by have := hF.2.2.1; omega) (by decide)]; exact c1), if_neg (show ¬ (k = 2 ∧ 0 ≤ v ∧ v < 1000000000) from fun z => c1 z.1), bd2_some, f63 rfl, bd2_some, if_pos rfl]
    split
    · exact bad R d (KB.rf d)
    · exact bad R d (KB.rf d)
theorem i_person (hN : 5000 ≤ N) (hT : BTx b n T) (hTm : BTm b n d) (hI : Inv a) (hV : VR a o) (hS : SR a (m_s d)) (hF : TF b n k f e u v) (hM : MS d k f e v) (hL : L ≤ e) {kd : Nat} (hkd : kd ≤ 5) : IR b n T L o d (f_X2_readPerson N (nI kd) ((T, nI k, nI f, nI e, nI u, 0) : RD) o) (f_X5_personHere N (nI kd) d) := by
  have h12 := hI.1
  unfold f_X2_readPerson f_X5_personHere
  rw [m_n hS, some_bind']
  by_cases c1 : a_n a = 12
  · rw [v_addFull hV c1, bd2_some, if_pos rfl, lt_eq, rt_faulty, if_pos (by rw [c1]; rfl), m_fails hM, bd2_some, ckz01 (Or.inl rfl), some_bind']
    exact IR.bad rfl (KB.rf d) (Nat.le_trans hF.1 hF.2.1)
  · obtain ⟨o1, q1, q2, q3⟩ := v_addOne (N := N) hI hV (kd := kd) (ag := 0) (by omega)
    obtain ⟨s', c2, c3⟩ := m_comes (N := N) hN hI hS (kd := kd) (ag := 0) (by omega)
    have q1 : f_X3_addOne N (nI kd) 0 o = some (nI (a_n a), o1) := q1
    have c2 : f_X5_comes N (nI kd) 0 d = some (nI (a_n a), m_set_s d s') := c2
    have z1 : KB d (m_set_s d s') := KB.s _ _
    have z2 : m_s (m_set_s d s') = s' := rfl
    have z3 : MS (m_set_s d s') k f e v := ⟨hM.1, hM.2.1, hM.2.2.1, hM.2.2.2⟩
    rw [q1, bd2_some, if_neg (nI_ne_m1 _ (by omega)), if_neg (by rw [lit_nI 12, nI_eq_iff (by omega) (by decide)]; exact c1), c2, bd2_some, lt_eq, lit_nI 21, lit_nI 15, nI_muln, nI_addn]
    generalize m_set_s d s' = d0 at z1 z2 z3 ⊢
    rw [← z2] at c3
    have hIn : Inv (newP a kd 0) := newP_inv hI hkd (by omega) (by omega)
    obtain ⟨d1, p1, p2, p3⟩ := m_next (N := N) hN hF.2.1 (hTm.kb z1) z3.2.2.1
    have hF1 := tok_ok (b := b) hF.2.1
    have hL1 : L ≤ nf b n e := Nat.le_trans hL (nf_ok (b := b) hF.2.1).1
    have hL2 : L ≤ nf b n (ne' b n e) := Nat.le_trans hL1 (Nat.le_trans hF1.1 (nf_ok (b := b) hF1.2.1).1)
    have hT1 := (hTm.kb z1).kt p2
    have hS1 : SR (newP a kd 0) (m_s d1) := by rw [p2.1]; exact c3
    rw [x_next hN hT hF.2.1, some_bind', p1, some_bind', mq_2 hT1 p3 hF1, some_bind', if10, x_takes hN hT hF1 (by decide)]
    have kb1 : KB d d1 := z1.tr p2.kb
    cases c : WM b (nk b n e) (nf b n e) (ne' b n e) 2 with
    | false =>
      rw [if_neg (by decide), if_neg (by decide), bd2_some, if_pos rfl]
      exact (i63 hN hT hT1 (p := a_n a) (a := newP a kd 0) rfl hIn q2 hS1 hF1 p3 hL1).mv q3 kb1
    | true =>
      obtain ⟨d2, w1, w2, w3⟩ := m_next (N := N) hN hF1.2.1 hT1 p3.2.2.1
      rw [if_pos rfl, if_pos rfl, bd2_some, if_neg (by decide), w1, some_bind']
      exact (i_like hN hT (hT1.kt w2) (p := a_n a) (a := newP a kd 0) rfl (newP_wy a kd 0) hIn q2 (by rw [w2.1]; exact hS1) (tok_ok hF1.2.1) w3 hL2).mv q3 (kb1.tr w2.kb)
theorem i43 (hN : 5000 ≤ N) (hT : BTx b n T) (hTm : BTm b n d) (hI : Inv a) (hV : VR a o) (hS : SR a (m_s d)) (hF : TF b n k f e u v) (hM : MS d k f e v) (hL : L ≤ f) {mk : Nat} (hmk : mk < 9) : IR b n T L o d (f_X2_readMark_J43 N (nI mk) ((T, nI k, nI f, nI e, nI u, 0) : RD) o) (f_X5_markHere_J91 N (nI mk) d) := by
  unfold f_X2_readMark_J43 f_X5_markHere_J91
  rw [x_takes hN hT hF (by decide), mq_8 hTm hM hF, some_bind', if10]
  cases c : WM b k f e 8 with
  | false =>
    rw [if_neg (by decide), if_neg (by decide), bd2_some, if_pos rfl]
    exact IR.good rfl (KB.rf d) hI hV hS hF hM hL
  | true =>
    rw [if_pos rfl, if_pos rfl, bd2_some, if_neg (by decide)]
    obtain ⟨d1, p1, p2, p3⟩ := m_next (N := N) hN hF.2.1 hTm hM.2.2.1
    have hF1 := tok_ok (b := b) hF.2.1
    have hL1 : L ≤ nf b n e := Nat.le_trans hL (Nat.le_trans hF.1 (nf_ok (b := b) hF.2.1).1)
    have hL2 : L ≤ nf b n (ne' b n e) := Nat.le_trans hL1 (Nat.le_trans hF1.1 (nf_ok (b := b) hF1.2.1).1)
    have hT1 := hTm.kt p2
    have hS1 : SR a (m_s d1) := by rw [p2.1]; exact hS
    rw [p1, some_bind']
    obtain ⟨g1, g2⟩ := m_num (N := N) hN hT1 p3 hF1 (at' := 12 + mk) (lo := 0) (h1 := 100) (H := 99) (by omega) (by decide) (by omega) (by omega)
    have xn := x_num (N := N) hN hT hF1 (lo := 0) (h1 := 100) (H := 99) (by decide) (by omega) (by omega)
    have xn : f_X2_takeNumber N 0 99 ((T, nI (nk b n e), nI (nf b n e), nI (ne' b n e), nI (nu b n e), 0) : RD) = _ := xn
    have ea : (12 : Int32) + nI mk = nI (12 + mk) := by rw [lit_nI 12, nI_addn]
    rw [xn, ea]
    by_cases c2 : nk b n e = 2 ∧ 0 ≤ nv b n e ∧ nv b n e < 100
    · obtain ⟨d2, w1, w2, w3, w4⟩ := g1 c2
      have w1 : f_X5_comesTo N (nI (12 + mk)) 0 99 d1 = some (1, d2) := w1
      rw [if_pos c2, bd2_some, x_exch N hmk (by decide), bd2_some, lt_eq, w1, bd2_some, ckz01 (Or.inr rfl), some_bind']
      have vr := hV.co (m' := mk) (nv b n e)
      have sr := hS1.co (m' := mk) (nv b n e) hmk
      rw [← w2] at sr
      exact IR.good rfl (p2.kb.tr w3) (hI.co (by omega)) vr sr (tok_ok hF1.2.1) w4 hL2
    · have g2 := g2 c2
      have g2 : f_X5_comesTo N (nI (12 + mk)) 0 99 d1 = _ := g2
      rw [if_neg c2, bd2_some, x_exch N hmk (by decide), bd2_some, lt_eq, g2, bd2_some, ckz01 (Or.inl rfl), some_bind']
      exact IR.bad rfl p2.kb (Nat.le_trans hF1.1 hF1.2.1)
theorem i_mark (hN : 5000 ≤ N) (hT : BTx b n T) (hTm : BTm b n d) (hI : Inv a) (hV : VR a o) (hS : SR a (m_s d)) (hF : TF b n k f e u v) (hM : MS d k f e v) (hL : L ≤ e) : IR b n T L o d (f_X2_readMark N ((T, nI k, nI f, nI e, nI u, 0) : RD) o) (f_X5_markHere N d) := by
  unfold f_X2_readMark f_X5_markHere
  obtain ⟨d1, p1, p2, p3⟩ := m_next (N := N) hN hF.2.1 hTm hM.2.2.1
  have hF1 := tok_ok (b := b) hF.2.1
  have hL1 : L ≤ nf b n e := Nat.le_trans hL (nf_ok (b := b) hF.2.1).1
  have hL2 : L ≤ nf b n (ne' b n e) := Nat.le_trans hL1 (Nat.le_trans hF1.1 (nf_ok (b := b) hF1.2.1).1)
  have hT1 := hTm.kt p2
  have hS1 : SR a (m_s d1) := by rw [p2.1]; exact hS
  have vb : nv b n e ≤ 2000000000 := by have := hF1.2.2.2.2.2; unfold VN at this; omega
  have xn := x_num (N := N) hN hT hF1 (lo := 0) (h1 := 9) (H := 8) (by decide) (by omega) (by omega)
  have xn : f_X2_takeNumber N 0 8 ((T, nI (nk b n e), nI (nf b n e), nI (ne' b n e), nI (nu b n e), 0) : RD) = _ := xn
  rw [x_next hN hT hF.2.1, some_bind', p1, some_bind', xn, p3.1, p3.2.2.2, m_fails p3, bd2_some, ckz01 (Or.inl rfl), some_bind', lt_eq]
  by_cases c1 : nk b n e = 2 ∧ 0 ≤ nv b n e ∧ nv b n e < 9
  · obtain ⟨d2, s1, s2, s3⟩ := m_next (N := N) hN hF1.2.1 hT1 p3.2.2.1
    have hF2 := tok_ok (b := b) hF1.2.1
    have hT2 := hT1.kt s2
    have hS2 : SR a (m_s d2) := by rw [s2.1]; exact hS1
    have kb2 : KB d d2 := p2.kb.tr s2.kb
    have hL3 : L ≤ nf b n (ne' b n (ne' b n e)) := Nat.le_trans hL2 (Nat.le_trans hF2.1 (nf_ok (b := b) hF2.2.1).1)
    have hL4 : L ≤ nf b n (ne' b n (ne' b n (ne' b n e))) := Nat.le_trans hL3 (Nat.le_trans (tok_ok (b := b) hF2.2.1).1 (nf_ok (b := b) (tok_ok (b := b) hF2.2.1).2.1).1)
    rw [if_pos c1, bd2_some, x_takes hN hT hF2 (by decide), if_pos (show nI (nk b n e) = (2 : Int32) by rw [c1.1]; rfl), if_pos (show nI (nv b n e) ≤ (8 : Int32) from nI_le (show nv b n e ≤ 8 by omega) (by decide)), s1, some_bind']
    have z := mw6 (N := N) (f_X5_markHere_J91 N (nI (nv b n e)) d2) ((f_X5_nextToken N d2).bind fun d21 => bd2 (f_X5_comesTo N ((3 : Int32) + nI (nv b n e)) (0 : Int32) (9 : Int32) d21) fun x23 d24 => if x23 = 0 then some ((0 : Int32), d24) else f_X5_markHere_J91 N (nI (nv b n e)) d24) hT2 s3 hF2 (wm_7 b _ _ _) (by decide) (by decide) (by decide) (by decide) (by decide) (by decide)
    refine Eq.mp (congrArg (fun w => IR b n T L o d _ w) z.symm) ?_
    cases c : WM b (nk b n (ne' b n e)) (nf b n (ne' b n e)) (ne' b n (ne' b n e)) 7 with
    | false =>
      rw [if_neg (by decide), if_neg (by decide), bd2_some, if_pos rfl]
      exact (i43 hN hT hT2 hI hV hS2 hF2 s3 hL2 (mk := nv b n e) (by omega)).mv rfl kb2
    | true =>
      obtain ⟨d3, t1, t2, t3⟩ := m_next (N := N) hN hF2.2.1 hT2 s3.2.2.1
      have hF3 := tok_ok (b := b) hF2.2.1
      have hT3 := hT2.kt t2
      have hS3 : SR a (m_s d3) := by rw [t2.1]; exact hS2
      have kb3 : KB d d3 := kb2.tr t2.kb
      obtain ⟨g1, g2⟩ := m_num (N := N) hN hT3 t3 hF3 (at' := 3 + nv b n e) (lo := 0) (h1 := 10) (H := 9) (by omega) (by decide) (by omega) (by omega)
      have xw := x_num (N := N) hN hT hF3 (lo := 0) (h1 := 10) (H := 9) (by decide) (by omega) (by omega)
      have xw : f_X2_takeNumber N 0 9 ((T, nI (nk b n (ne' b n (ne' b n e))), nI (nf b n (ne' b n (ne' b n e))), nI (ne' b n (ne' b n (ne' b n e))), nI (nu b n (ne' b n (ne' b n e))), 0) : RD) = _ := xw
      have ea : (3 : Int32) + nI (nv b n e) = nI (3 + nv b n e) := by rw [lit_nI 3, nI_addn]
      rw [if_pos rfl, if_pos rfl, bd2_some, if_neg (by decide), t1, some_bind', xw, ea]
      by_cases c2 : nk b n (ne' b n (ne' b n e)) = 2 ∧ 0 ≤ nv b n (ne' b n (ne' b n e)) ∧ nv b n (ne' b n (ne' b n e)) < 10
      · obtain ⟨d4, w1, w2, w3, w4⟩ := g1 c2
        have w1 : f_X5_comesTo N (nI (3 + nv b n e)) 0 9 d3 = some (1, d4) := w1
        obtain ⟨o1, y1, y2, y3⟩ := v_putWeight (N := N) hN hV (m := nv b n e) (by omega) (nv b n (ne' b n (ne' b n e)))
        rw [if_pos c2, bd2_some, rg_faulty, if_pos rfl, y1, bd2_some, w1, bd2_some, if_neg (by decide)]
        have sr := hS3.wt (m' := nv b n e) (nv b n (ne' b n (ne' b n e))) (by omega)
        rw [← w2] at sr
        exact (i43 hN hT (hT3.kb w3) (hI.wt (by omega)) y2 sr (tok_ok hF3.2.1) w4 hL4 (mk := nv b n e) (by omega)).mv (congrFun y3.1 12) (kb3.tr w3)
      · have g2 := g2 c2
        have g2 : f_X5_comesTo N (nI (3 + nv b n e)) 0 9 d3 = _ := g2
        rw [if_neg c2, bd2_some, rg_faulty, if_neg (by decide), f43 rfl, g2, bd2_some, if_pos rfl]
        exact IR.bad rfl kb3 (Nat.le_trans hF3.1 hF3.2.1)
  · rw [if_neg c1, bd2_some, x_takesF rfl, bd2_some, if_pos rfl, f43 rfl]
    have bad : IR b n T L o d (some (((T, nI (nk b n e), nI (nf b n e), nI (ne' b n e), nI (nu b n e), 1) : RD), o)) (some (0, m_set_faultAt d1 (nI (nf b n e)))) := IR.bad rfl p2.kb (Nat.le_trans hF1.1 hF1.2.1)
    by_cases c2 : nk b n e = 2
    · rw [if_pos (by rw [c2]; rfl), if_neg (show ¬ nI (nv b n e) ≤ (8 : Int32) from nI_ge (show 8 < nv b n e by omega) (by omega))]
      exact bad
    · rw [if_neg (by rw [lit_nI 2, nI_eq_iff (by have := hF1.2.2.1; omega) (by decide)]; exact c2)]
      exact bad
theorem ir_z {b : Nat → Nat} {n : Nat} {T : TD} {L : Nat} {o0 : VD} {d0 : MD} {X : Option (RD × VD)} {M : Option (Int32 × MD)} (h : IR b n T L o0 d0 X M) : IR b n T L o0 d0 (bd2 X fun r v => some (r, v)) (bd2 M fun z d => (ckz z).bind fun _ => some (z, d)) := by
  obtain ⟨r', v', z, d', q1, q2, q3, q4, q5⟩ := h
  refine ⟨r', v', z, d', by rw [q1, bd2_some], ?_, q3, q4, q5⟩
  rw [q2, bd2_some]
  rcases q5 with ⟨rfl, -⟩ | ⟨rfl, -⟩
  · rfl
  · rfl
theorem i_item (hN : 5000 ≤ N) (hT : BTx b n T) (hTm : BTm b n d) (hI : Inv a) (hV : VR a o) (hS : SR a (m_s d)) (hF : TF b n k f e u v) (hM : MS d k f e v) (hL : L ≤ e) : IR b n T L o d (f_X2_readItem N ((T, nI k, nI f, nI e, nI u, 0) : RD) o) (f_X5_itemHere N d) := by
  have kl := kdv_le b k f e
  unfold f_X2_readItem f_X5_itemHere
  rw [x_kindHere hN hT hF, some_bind', m_kindHere hTm hM hF, some_bind']
  by_cases c1 : kdv b k f e = 0
  · rw [if_pos (by rw [enc_m1 (by omega)]; exact c1), if_pos (by rw [enc_neg (by omega)]; exact c1), x_word hN hT (by decide) hF.2.2.1 hF.1 hF.2.1, some_bind', if10, mq_0 hTm hM hF, some_bind', if10]
    cases c2 : WM b k f e 0 with
    | true =>
      rw [if_pos rfl, if_pos rfl]
      exact ir_z (i_mark hN hT hTm hI hV hS hF hM hL)
    | false =>
      rw [if_neg (by decide), if_neg (by decide), x_word hN hT (by decide) hF.2.2.1 hF.1 hF.2.1, some_bind', if10]
      have z := mw3 (N := N) (bd2 (f_X5_fails N d) fun x10 d11 => (ckz x10).bind fun _ => some (x10, d11)) ((f_X5_nextToken N d).bind fun d21 => bd2 (f_X5_comesTo N (2 : Int32) (0 : Int32) (2 : Int32) d21) fun x23 d24 => (ckz x23).bind fun _ => some (x23, d24)) hTm hM hF (wm_1 b k f e) (by decide) (by decide) (by decide)
      refine Eq.mp (congrArg (fun w => IR b n T L o d _ w) z.symm) ?_
      cases c3 : WM b k f e 1 with
      | false =>
        rw [if_neg (by decide), if_neg (by decide), lt_eq, rt_faulty, m_fails hM, bd2_some, ckz01 (Or.inl rfl), some_bind']
        exact IR.bad rfl (KB.rf d) (Nat.le_trans hF.1 hF.2.1)
      | true =>
        rw [if_pos rfl, if_pos rfl]
        obtain ⟨d1, p1, p2, p3⟩ := m_next (N := N) hN hF.2.1 hTm hM.2.2.1
        have hF1 := tok_ok (b := b) hF.2.1
        have hL1 : L ≤ nf b n e := Nat.le_trans hL (nf_ok (b := b) hF.2.1).1
        have hL2 : L ≤ nf b n (ne' b n e) := Nat.le_trans hL1 (Nat.le_trans hF1.1 (nf_ok (b := b) hF1.2.1).1)
        have hT1 := hTm.kt p2
        have hS1 : SR a (m_s d1) := by rw [p2.1]; exact hS

        obtain ⟨g1, g2⟩ := m_num (N := N) hN hT1 p3 hF1 (at' := 2) (lo := 0) (h1 := 3) (H := 2) (by omega) (by decide) (by omega) (by omega)
        have xn := x_num (N := N) hN hT hF1 (lo := 0) (h1 := 3) (H := 2) (by decide) (by omega) (by omega)
        have xn : f_X2_takeNumber N 0 2 ((T, nI (nk b n e), nI (nf b n e), nI (ne' b n e), nI (nu b n e), 0) : RD) = _ := xn
        rw [x_next hN hT hF.2.1, some_bind', xn, p1, some_bind']
        by_cases c4 : nk b n e = 2 ∧ 0 ≤ nv b n e ∧ nv b n e < 3
        · obtain ⟨d2, w1, w2, w3, w4⟩ := g1 c4
          have w1 : f_X5_comesTo N 2 0 2 d1 = some (1, d2) := w1
          rw [if_pos c4, bd2_some, rg_faulty, if_pos rfl, lt_eq, w1, bd2_some, ckz01 (Or.inr rfl), some_bind']
          have sr := hS1.l (nv b n e)
          rw [← w2] at sr
          exact IR.good rfl (p2.kb.tr w3) (hI.l (by omega)) (hV.l (nv b n e)) sr (tok_ok hF1.2.1) w4 hL2
        · have g2 := g2 c4
          have g2 : f_X5_comesTo N 2 0 2 d1 = _ := g2
          rw [if_neg c4, bd2_some, rg_faulty, if_neg (by decide), g2, bd2_some, ckz01 (Or.inl rfl), some_bind']
          exact IR.bad rfl p2.kb (Nat.le_trans hF1.1 hF1.2.1)
  · rw [if_neg (by rw [enc_m1 (by omega)]; exact c1), if_neg (by rw [enc_neg (by omega)]; exact c1), enc_pos c1]
    exact ir_z (i_person hN hT hTm hI hV hS hF hM hL (kd := kdv b k f e - 1) (by omega))
end ITEM2
