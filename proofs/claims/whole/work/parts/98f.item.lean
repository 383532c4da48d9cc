/-! ===== THE TEXT: items ===== -/
/-- an item on both sides: read, or faulty at the same place -/
def IR (b : Nat → Nat) (n : Nat) (T : TD) (L : Nat) (o0 : VD) (d0 : MD) (X : Option (RD × VD)) (M : Option (Int32 × MD)) : Prop := ∃ r' v' z d', X = some (r', v') ∧ M = some (z, d') ∧ v_children v' 12 = v_children o0 12 ∧ KB d0 d' ∧ ((z = 1 ∧ ∃ a' k f e u v, Inv a' ∧ VR a' v' ∧ SR a' (m_s d') ∧ r' = ((T, nI k, nI f, nI e, nI u, 0) : RD) ∧ TF b n k f e u v ∧ MS d' k f e v ∧ L ≤ f) ∨ (z = 0 ∧ ∃ (k e u : Int32) (g : Nat), r' = ((T, k, nI g, e, u, 1) : RD) ∧ m_faultAt d' = nI g ∧ g ≤ n))
theorem IR.mv {b : Nat → Nat} {n : Nat} {T : TD} {L : Nat} {o0 o1 : VD} {d0 d1 : MD} {X : Option (RD × VD)} {M : Option (Int32 × MD)} (h : IR b n T L o1 d1 X M) (h1 : v_children o1 12 = v_children o0 12) (h2 : KB d0 d1) : IR b n T L o0 d0 X M := by
  obtain ⟨r', v', z, d', q1, q2, q3, q4, q5⟩ := h
  exact ⟨r', v', z, d', q1, q2, q3.trans h1, h2.tr q4, q5⟩
theorem IR.bad {b : Nat → Nat} {n : Nat} {T : TD} {L : Nat} {o0 v' : VD} {d0 d1 : MD} {k e u : Int32} {f : Nat} (h1 : v_children v' 12 = v_children o0 12) (h2 : KB d0 d1) (hf : f ≤ n) : IR b n T L o0 d0 (some (((T, k, nI f, e, u, 1) : RD), v')) (some (0, m_set_faultAt d1 (nI f))) := ⟨_, _, _, _, rfl, rfl, h1, h2.tr (KT.fa _ _).kb, Or.inr ⟨rfl, k, e, u, f, rfl, rfl, hf⟩⟩
theorem IR.good {b : Nat → Nat} {n : Nat} {T : TD} {L : Nat} {o0 v' : VD} {d0 d' : MD} {a' : AS} {k f e u v : Nat} (h1 : v_children v' 12 = v_children o0 12) (h2 : KB d0 d') (hI : Inv a') (hV : VR a' v') (hS : SR a' (m_s d')) (hF : TF b n k f e u v) (hM : MS d' k f e v) (hL : L ≤ f) : IR b n T L o0 d0 (some (((T, nI k, nI f, nI e, nI u, 0) : RD), v')) (some (1, d')) := ⟨_, _, _, _, rfl, rfl, h1, h2, Or.inl ⟨rfl, a', k, f, e, u, v, hI, hV, hS, rfl, hF, hM, hL⟩⟩
section ITEM
variable {N : Nat} {b : Nat → Nat} {n : Nat} {T : TD} {d : MD} {o : VD} {a : AS} {k f e v u p L : Nat}
theorem ckz01 {y : Int32} (h : y = 0 ∨ y = 1) : ckz y = some () := by unfold ckz; rw [if_pos h]
theorem f129 {r : RD} (h : r_isFaulty r = 1) (q : Int32) : f_X2_readPerson_J129 N q r o = some (r, o) := by
  unfold f_X2_readPerson_J129
  rw [x_takesF h, bd2_some, if_pos rfl]
theorem f107 {r : RD} (h : r_isFaulty r = 1) (q : Int32) : f_X2_readPerson_J107 N q r o = some (r, o) := by
  unfold f_X2_readPerson_J107
  rw [x_takesF h, bd2_some, if_pos rfl, f129 h]
theorem f85 {r : RD} (h : r_isFaulty r = 1) (q : Int32) : f_X2_readPerson_J85 N q r o = some (r, o) := by
  unfold f_X2_readPerson_J85
  rw [x_takesF h, bd2_some, if_pos rfl, f107 h]
theorem f63 {r : RD} (h : r_isFaulty r = 1) (q : Int32) : f_X2_readPerson_J63 N q r o = some (r, o) := by
  unfold f_X2_readPerson_J63
  rw [x_takesF h, bd2_some, if_pos rfl, f85 h]
theorem f43 {r : RD} (h : r_isFaulty r = 1) (q : Int32) : f_X2_readMark_J43 N q r o = some (r, o) := by
  unfold f_X2_readMark_J43
  rw [x_takesF h, bd2_some, if_pos rfl]
theorem i129 (hN : 5000 ≤ N) (hT : BTx b n T) (hTm : BTm b n d) (hn : a_n a = p + 1) (hI : Inv a) (hV : VR a o) (hS : SR a (m_s d)) (hF : TF b n k f e u v) (hM : MS d k f e v) (hL : L ≤ f) : IR b n T L o d (f_X2_readPerson_J129 N (nI p) ((T, nI k, nI f, nI e, nI u, 0) : RD) o) (f_X5_personHere_J175 N (nI p) (nI (21 + 15 * p)) d) := by
  have h12 := hI.1
  unfold f_X2_readPerson_J129 f_X5_personHere_J175
  rw [x_takes hN hT hF (by decide), mq_6 hTm hM hF, some_bind', if10]
  cases c : WM b k f e 6 with
  | false =>
    rw [if_neg (by decide), if_neg (by decide), bd2_some, if_pos rfl]
    exact IR.good rfl (KB.rf d) hI hV hS hF hM hL
  | true =>
    rw [if_pos rfl, if_pos rfl, bd2_some, if_neg (by decide)]
    obtain ⟨d1, p1, p2, p3⟩ := m_next (N := N) hN hF.2.1 hTm hM.2.2.1
    have hF1 := tok_ok (b := b) hF.2.1
    have hL1 : L ≤ nf b n e := Nat.le_trans hL (Nat.le_trans hF.1 (nf_ok (b := b) hF.2.1).1)
    have hL2 : L ≤ nf b n (ne' b n e) := Nat.le_trans hL1 (Nat.le_trans hF1.1 (nf_ok (b := b) hF1.2.1).1)
    have hT1 := hTm.kt p2
    have hS1 : SR a (m_s d1) := by rw [p2.1]; exact hS
    rw [p1, some_bind']
    have hH : (nI p - (1 : Int32)).toInt = (p : Int) - 1 := pk_sub_toInt (a := p) (b := 1) (by omega) (by omega)
    obtain ⟨g1, g2⟩ := m_num (N := N) hN hT1 p3 hF1 (at' := 21 + 15 * p + 4) (lo := 0) (h1 := p) (H := nI p - 1) (by omega) hH (by omega) (by omega)
    have xn := x_num (N := N) hN hT hF1 (lo := 0) (h1 := p) (H := nI p - 1) hH (by omega) (by omega)
    have xn : f_X2_takeNumber N 0 (nI p - 1) ((T, nI (nk b n e), nI (nf b n e), nI (ne' b n e), nI (nu b n e), 0) : RD) = _ := xn
    have ea : nI (21 + 15 * p) + (4 : Int32) = nI (21 + 15 * p + 4) := by rw [lit_nI 4, nI_addn]
    rw [xn, ea]
    by_cases c2 : nk b n e = 2 ∧ 0 ≤ nv b n e ∧ nv b n e < p
    · obtain ⟨d2, w1, w2, w3, w4⟩ := g1 c2
      have w1 : f_X5_comesTo N (nI (21 + 15 * p + 4)) 0 (nI p - 1) d1 = some (1, d2) := w1
      rw [if_pos c2, bd2_some, ck_nI (by omega) (by decide), some_bind', lt_eq, nI_clamp (by omega), w1, bd2_some, ckz01 (Or.inr rfl), some_bind']
      have vr := hV.ch (i := p) (nv b n e + 1)
      have sr := hS1.ch (i := p) (nv b n e + 1) (by omega)
      rw [enc_s] at vr sr
      rw [← w2] at sr
      exact IR.good (pk_un (by omega)) (p2.kb.tr w3) (hI.ch (by omega)) vr sr (tok_ok hF1.2.1) w4 hL2
    · have g2 := g2 c2
      have g2 : f_X5_comesTo N (nI (21 + 15 * p + 4)) 0 (nI p - 1) d1 = _ := g2
      rw [if_neg c2, bd2_some, ck_nI (by omega) (by decide), some_bind', lt_eq, nI_clamp (by omega), g2, bd2_some, ckz01 (Or.inl rfl), some_bind']
      exact IR.bad (pk_un (by omega)) p2.kb (Nat.le_trans hF1.1 hF1.2.1)
theorem i107 (hN : 5000 ≤ N) (hT : BTx b n T) (hTm : BTm b n d) (hn : a_n a = p + 1) (hI : Inv a) (hV : VR a o) (hS : SR a (m_s d)) (hF : TF b n k f e u v) (hM : MS d k f e v) (hL : L ≤ f) : IR b n T L o d (f_X2_readPerson_J107 N (nI p) ((T, nI k, nI f, nI e, nI u, 0) : RD) o) (f_X5_personHere_J141 N (nI p) (nI (21 + 15 * p)) d) := by
  have h12 := hI.1
  have nxt := i129 hN hT hTm hn hI hV hS hF hM hL
  unfold f_X2_readPerson_J107 f_X5_personHere_J141
  rw [x_takes hN hT hF (by decide), mq_5 hTm hM hF, some_bind', if10]
  cases c : WM b k f e 5 with
  | false =>
    rw [if_neg (by decide), if_neg (by decide), bd2_some, if_pos rfl]
    exact nxt
  | true =>
    rw [if_pos rfl, if_pos rfl, bd2_some, if_neg (by decide)]
    obtain ⟨d1, p1, p2, p3⟩ := m_next (N := N) hN hF.2.1 hTm hM.2.2.1
    have hF1 := tok_ok (b := b) hF.2.1
    have hL1 : L ≤ nf b n e := Nat.le_trans hL (Nat.le_trans hF.1 (nf_ok (b := b) hF.2.1).1)
    have hL2 : L ≤ nf b n (ne' b n e) := Nat.le_trans hL1 (Nat.le_trans hF1.1 (nf_ok (b := b) hF1.2.1).1)
    have hT1 := hTm.kt p2
    have hS1 : SR a (m_s d1) := by rw [p2.1]; exact hS
    rw [p1, some_bind']
    obtain ⟨g1, g2⟩ := m_num (N := N) hN hT1 p3 hF1 (at' := 21 + 15 * p + 3) (lo := 1) (h1 := 121) (H := 120) (by omega) (by decide) (by omega) (by omega)
    have xn := x_num (N := N) hN hT hF1 (lo := 1) (h1 := 121) (H := 120) (by decide) (by omega) (by omega)
    have xn : f_X2_takeNumber N 1 120 ((T, nI (nk b n e), nI (nf b n e), nI (ne' b n e), nI (nu b n e), 0) : RD) = _ := xn
    have ea : nI (21 + 15 * p) + (3 : Int32) = nI (21 + 15 * p + 3) := by rw [lit_nI 3, nI_addn]
    rw [xn, ea]
    by_cases c2 : nk b n e = 2 ∧ 1 ≤ nv b n e ∧ nv b n e < 121
    · obtain ⟨d2, w1, w2, w3, w4⟩ := g1 c2
      have w1 : f_X5_comesTo N (nI (21 + 15 * p + 3)) 1 120 d1 = some (1, d2) := w1
      rw [if_pos c2, bd2_some, ck_nI (by omega) (by decide), some_bind', lt_eq, nI_clamp (by omega), w1, bd2_some, if_neg (by decide)]
      have vr := hV.tm (i := p) (nv b n e)
      have sr := hS1.tm (i := p) (nv b n e) (by omega)
      rw [← w2] at sr
      exact (i129 hN hT (hT1.kb w3) (a := a_set_tm a (va_up (a_tm a) p (nv b n e))) hn (hI.tm c2.2.1 (by omega)) vr sr (tok_ok hF1.2.1) w4 hL2).mv rfl (p2.kb.tr w3)
    · have g2 := g2 c2
      have g2 : f_X5_comesTo N (nI (21 + 15 * p + 3)) 1 120 d1 = _ := g2
      rw [if_neg c2, bd2_some, ck_nI (by omega) (by decide), some_bind', lt_eq, nI_clamp (by omega), f129 rfl, g2, bd2_some, if_pos rfl]
      exact IR.bad rfl p2.kb (Nat.le_trans hF1.1 hF1.2.1)
theorem i85 (hN : 5000 ≤ N) (hT : BTx b n T) (hTm : BTm b n d) (hn : a_n a = p + 1) (hI : Inv a) (hV : VR a o) (hS : SR a (m_s d)) (hF : TF b n k f e u v) (hM : MS d k f e v) (hL : L ≤ f) : IR b n T L o d (f_X2_readPerson_J85 N (nI p) ((T, nI k, nI f, nI e, nI u, 0) : RD) o) (f_X5_personHere_J105 N (nI p) (nI (21 + 15 * p)) d) := by
  have h12 := hI.1
  have nxt := i107 hN hT hTm hn hI hV hS hF hM hL
  unfold f_X2_readPerson_J85 f_X5_personHere_J105
  rw [x_takes hN hT hF (by decide), mq_4 hTm hM hF, some_bind', if10]
  cases c : WM b k f e 4 with
  | false =>
    rw [if_neg (by decide), if_neg (by decide), bd2_some, if_pos rfl]
    exact nxt
  | true =>
    rw [if_pos rfl, if_pos rfl, bd2_some, if_neg (by decide)]
    obtain ⟨d1, p1, p2, p3⟩ := m_next (N := N) hN hF.2.1 hTm hM.2.2.1
    have hF1 := tok_ok (b := b) hF.2.1
    have hL1 : L ≤ nf b n e := Nat.le_trans hL (Nat.le_trans hF.1 (nf_ok (b := b) hF.2.1).1)
    have hL2 : L ≤ nf b n (ne' b n e) := Nat.le_trans hL1 (Nat.le_trans hF1.1 (nf_ok (b := b) hF1.2.1).1)
    have hT1 := hTm.kt p2
    have hS1 : SR a (m_s d1) := by rw [p2.1]; exact hS
    rw [p1, some_bind']
    obtain ⟨g1, g2⟩ := m_num (N := N) hN hT1 p3 hF1 (at' := 21 + 15 * p + 2) (lo := 0) (h1 := 1000000) (H := 999999) (by omega) (by decide) (by omega) (by omega)
    have xn := x_num (N := N) hN hT hF1 (lo := 0) (h1 := 1000000) (H := 999999) (by decide) (by omega) (by omega)
    have xn : f_X2_takeNumber N 0 999999 ((T, nI (nk b n e), nI (nf b n e), nI (ne' b n e), nI (nu b n e), 0) : RD) = _ := xn
    have ea : nI (21 + 15 * p) + (2 : Int32) = nI (21 + 15 * p + 2) := by rw [lit_nI 2, nI_addn]
    rw [xn, ea]
    by_cases c2 : nk b n e = 2 ∧ 0 ≤ nv b n e ∧ nv b n e < 1000000
    · obtain ⟨d2, w1, w2, w3, w4⟩ := g1 c2
      have w1 : f_X5_comesTo N (nI (21 + 15 * p + 2)) 0 999999 d1 = some (1, d2) := w1
      rw [if_pos c2, bd2_some, ck_nI (by omega) (by decide), some_bind', lt_eq, nI_clamp (by omega), w1, bd2_some, if_neg (by decide)]
      have vr := hV.gd (i := p) (nv b n e)
      have sr := hS1.gd (i := p) (nv b n e) (by omega)
      rw [← w2] at sr
      exact (i107 hN hT (hT1.kb w3) (a := a_set_gd a (va_up (a_gd a) p (nv b n e))) hn (hI.gd (by omega)) vr sr (tok_ok hF1.2.1) w4 hL2).mv rfl (p2.kb.tr w3)
    · have g2 := g2 c2
      have g2 : f_X5_comesTo N (nI (21 + 15 * p + 2)) 0 999999 d1 = _ := g2
      rw [if_neg c2, bd2_some, ck_nI (by omega) (by decide), some_bind', lt_eq, nI_clamp (by omega), f107 rfl, g2, bd2_some, if_pos rfl]
      exact IR.bad rfl p2.kb (Nat.le_trans hF1.1 hF1.2.1)
theorem i63 (hN : 5000 ≤ N) (hT : BTx b n T) (hTm : BTm b n d) (hn : a_n a = p + 1) (hI : Inv a) (hV : VR a o) (hS : SR a (m_s d)) (hF : TF b n k f e u v) (hM : MS d k f e v) (hL : L ≤ f) : IR b n T L o d (f_X2_readPerson_J63 N (nI p) ((T, nI k, nI f, nI e, nI u, 0) : RD) o) (f_X5_personHere_J64 N (nI p) (nI (21 + 15 * p)) d) := by
  have h12 := hI.1
  have nxt := i85 hN hT hTm hn hI hV hS hF hM hL
  have z := mw3 (N := N) (f_X5_personHere_J105 N (nI p) (nI (21 + 15 * p)) d) ((f_X5_nextToken N d).bind fun d28 => bd2 (f_X5_comesTo N (nI (21 + 15 * p) + (1 : Int32)) (0 : Int32) (120 : Int32) d28) fun x30 d31 => if x30 = 0 then some ((0 : Int32), d31) else f_X5_personHere_J105 N (nI p) (nI (21 + 15 * p)) d31) hTm hM hF (wm_3 b k f e) (by decide) (by decide) (by decide)
  have z : f_X5_personHere_J64 N (nI p) (nI (21 + 15 * p)) d = _ := z
  rw [z]
  unfold f_X2_readPerson_J63
  rw [x_takes hN hT hF (by decide)]
  cases c : WM b k f e 3 with
  | false =>
    rw [if_neg (by decide), if_neg (by decide), bd2_some, if_pos rfl]
    exact nxt
  | true =>
    rw [if_pos rfl, if_pos rfl, bd2_some, if_neg (by decide)]
    obtain ⟨d1, p1, p2, p3⟩ := m_next (N := N) hN hF.2.1 hTm hM.2.2.1
    have hF1 := tok_ok (b := b) hF.2.1
    have hL1 : L ≤ nf b n e := Nat.le_trans hL (Nat.le_trans hF.1 (nf_ok (b := b) hF.2.1).1)
    have hL2 : L ≤ nf b n (ne' b n e) := Nat.le_trans hL1 (Nat.le_trans hF1.1 (nf_ok (b := b) hF1.2.1).1)
    have hT1 := hTm.kt p2
    have hS1 : SR a (m_s d1) := by rw [p2.1]; exact hS
    rw [p1, some_bind']
    obtain ⟨g1, g2⟩ := m_num (N := N) hN hT1 p3 hF1 (at' := 21 + 15 * p + 1) (lo := 0) (h1 := 121) (H := 120) (by omega) (by decide) (by omega) (by omega)
    have xn := x_num (N := N) hN hT hF1 (lo := 0) (h1 := 121) (H := 120) (by decide) (by omega) (by omega)
    have xn : f_X2_takeNumber N 0 120 ((T, nI (nk b n e), nI (nf b n e), nI (ne' b n e), nI (nu b n e), 0) : RD) = _ := xn
    have ea : nI (21 + 15 * p) + (1 : Int32) = nI (21 + 15 * p + 1) := by rw [lit_nI 1, nI_addn]
    rw [xn, ea]
    by_cases c2 : nk b n e = 2 ∧ 0 ≤ nv b n e ∧ nv b n e < 121
    · obtain ⟨d2, w1, w2, w3, w4⟩ := g1 c2
      have w1 : f_X5_comesTo N (nI (21 + 15 * p + 1)) 0 120 d1 = some (1, d2) := w1
      rw [if_pos c2, bd2_some, ck_nI (by omega) (by decide), some_bind', lt_eq, nI_clamp (by omega), w1, bd2_some, if_neg (by decide)]
      have vr := hV.ag (i := p) (nv b n e)
      have sr := hS1.ag (i := p) (nv b n e) (by omega)
      rw [← w2] at sr
      exact (i85 hN hT (hT1.kb w3) (a := a_set_ag a (va_up (a_ag a) p (nv b n e))) hn (hI.ag (by omega)) vr sr (tok_ok hF1.2.1) w4 hL2).mv rfl (p2.kb.tr w3)
    · have g2 := g2 c2
      have g2 : f_X5_comesTo N (nI (21 + 15 * p + 1)) 0 120 d1 = _ := g2
      rw [if_neg c2, bd2_some, ck_nI (by omega) (by decide), some_bind', lt_eq, nI_clamp (by omega), f85 rfl, g2, bd2_some, if_pos rfl]
      exact IR.bad rfl p2.kb (Nat.le_trans hF1.1 hF1.2.1)
/-! the look that digits tell -/
def dok (b : Nat → Nat) (f e : Nat) : Prop := ∀ i, f ≤ i → i < e → 48 ≤ b i ∧ b i ≤ 51
def dgw (b : Nat → Nat) (e c q : Nat) : Nat := if q < c ∧ q < 9 then b (e - 1 - q) - 48 else 0
theorem LK_m1 {y : Int32} {w : Nat → Nat} (h : LK y w) : ¬ y = -1 := fun z => by
  have h1 := h.2 31 (by omega)
  rw [z] at h1
  revert h1
  decide
theorem b48 {c : Nat} (hc : c < 256) : (0 ≤ nI c - (48 : Int32) ∧ nI c - (48 : Int32) ≤ 3) ↔ (48 ≤ c ∧ c ≤ 51) := by
  have e1 : (nI c - (48 : Int32)).toInt = (c : Int) - 48 := pk_sub_toInt (a := c) (b := 48) (by omega) (by omega)
  have e3 : (3 : Int32).toInt = 3 := by decide
  have e0 : (0 : Int32).toInt = 0 := by decide
  rw [fa_le', fa_le', e1, e3, e0]
  omega
theorem x_look_dig {kk uu gg : Int32} (hT : BTx b n T) (hfe : f ≤ e) (he : e ≤ n) : ∀ (t c g : Nat) (y : Int32), f + t + c = e → t < g → (∀ i, f + t ≤ i → i < e → 48 ≤ b i ∧ b i ≤ 51) → LK y (dgw b e c) → ∃ R, f_X2_lookHere_L9 N ((T, kk, nI f, nI e, uu, gg) : RD) g y (nI (f + t) - 1) = some R ∧ (dok b f e → LK R (dgw b e (e - f))) ∧ (¬ dok b f e → R = -1) := by
  have h1 := hT.1
  intro t
  induction t with
  | zero =>
    intro c g y e1 e2 hd hy
    obtain ⟨g', rfl⟩ : ∃ g', g = g' + 1 := ⟨g - 1, by omega⟩
    have hlt : nI (f + 0) - 1 < nI f := by
      have z : (nI (f + 0) - (1 : Int32)).toInt = ((f + 0 : Nat) : Int) - 1 := pk_sub_toInt (a := f + 0) (b := 1) (by omega) (by omega)
      rw [fa_lt', z, nI_toInt (by omega)]
      omega
    rw [f_X2_lookHere_L9, rg_start, if_pos hlt]
    refine ⟨y, rfl, fun _ => ?_, fun z => absurd (fun i i1 i2 => hd i (by omega) i2) z⟩
    rw [show e - f = c by omega]
    exact hy
  | succ t ih =>
    intro c g y e1 e2 hd hy
    obtain ⟨g', rfl⟩ : ∃ g', g = g' + 1 := ⟨g - 1, by omega⟩
    have be := hT.2.2 (f + t) (by omega)
    have hb : bY b n (f + t) = nI (b (f + t)) := if_pos (by omega)
    have ei : nI (f + (t + 1)) - 1 = nI (f + t) := nI_pred (f + t)
    have em : nI e - (1 : Int32) - nI (f + t) = nI c := by
      rw [show (1 : Int32) = nI 1 from rfl, pk_sub (by omega), pk_sub (by omega), show e - 1 - (f + t) = c by omega]
    have en : nI (f + t) + (-1) = nI (f + t) - 1 := by rw [Int32.sub_eq_add_neg]
    rw [f_X2_lookHere_L9, rg_start, rg_end, rg_tape, ei, if_neg (nI_nlt (by omega) (by omega)), lt_eq, em, x_byte hT (by omega), some_bind', hb, lt_eq, x_in, some_bind', if10, lt_eq, en]
    by_cases c1 : 48 ≤ b (f + t) ∧ b (f + t) ≤ 51
    · rw [if_pos ((b48 be.1).mpr c1)]
      have hd' : ∀ i, f + t ≤ i → i < e → 48 ≤ b i ∧ b i ≤ 51 := fun i i1 i2 => by
        by_cases ci : i = f + t
        · rw [ci]; exact c1
        · exact hd i (by omega) i2
      by_cases c9 : 9 ≤ c
      · rw [if_pos (show (9 : Int32) ≤ nI c from nI_le c9 (by omega))]
        refine ih (c + 1) g' y (by omega) (by omega) hd' (LK_cong (fun q hq => ?_) hy)
        unfold dgw
        rw [if_pos (by omega), if_pos (by omega)]
      · have ew : nI (b (f + t)) - (48 : Int32) = nI (b (f + t) - 48) := pk_sub (b := 48) (by omega)
        obtain ⟨R, r1, r2⟩ := x_withWay (N := N) hy (m := c) (x := b (f + t) - 48) (by omega) (by omega)
        rw [if_neg (show ¬ (9 : Int32) ≤ nI c from nI_ge (show c < 9 by omega) (by decide)), ew, r1, some_bind', lt_eq]
        refine ih (c + 1) g' R (by omega) (by omega) hd' (LK_cong (fun q hq => ?_) r2)
        unfold dgw
        by_cases cq : q = c
        · rw [cq, va_up_s, if_pos (by omega), show e - 1 - c = f + t by omega]
        · rw [va_up_n _ _ cq]
          by_cases cl : q < c ∧ q < 9
          · rw [if_pos cl, if_pos (by omega)]
          · rw [if_neg cl, if_neg (by omega)]
    · rw [if_neg (fun z => c1 ((b48 be.1).mp z))]
      exact ⟨-1, rfl, fun z => absurd (z (f + t) (by omega) (by omega)) c1, fun _ => rfl⟩
theorem x_lookHere {kk uu gg : Int32} (hN : 5000 ≤ N) (hT : BTx b n T) (hfe : f ≤ e) (he : e ≤ n) : ∃ R, f_X2_lookHere N ((T, kk, nI f, nI e, uu, gg) : RD) = some R ∧ (dok b f e → LK R (dgw b e (e - f))) ∧ (¬ dok b f e → R = -1) := by
  have h1 := hT.1
  unfold f_X2_lookHere
  rw [lt_eq, rg_end]
  have z := x_look_dig (N := N) (kk := kk) (uu := uu) (gg := gg) hT hfe he (e - f) 0 N 0 (by omega) (by omega) (fun i i1 i2 => by omega) (LK_cong (fun q _ => by unfold dgw; rw [if_neg (by omega)]) LK_0)
  rw [show f + (e - f) = e by omega] at z
  exact z
theorem m_ways_dig (hN : 5000 ≤ N) (hI : Inv a) (hp : p < a_n a) (h0 : a_wy a p = fun _ => 0) (hF : TF b n 2 f e u v) : ∀ (t c g : Nat) (d : MD), f + t + c = e → t < g → BTm b n d → MS d 2 f e v → (∀ i, f + t ≤ i → i < e → 48 ≤ b i ∧ b i ≤ 51) → SR (wset a p (dgw b e c)) (m_s d) →
    (dok b f e → ∃ d', f_X5_waysCome_L29 N g (nI p) (nI (f + t) - 1) d = some (1, d') ∧ KB d d' ∧ SR (wset a p (dgw b e (e - f))) (m_s d') ∧ MS d' (nk b n e) (nf b n e) (ne' b n e) (nv b n e)) ∧ (¬ dok b f e → ∃ d', f_X5_waysCome_L29 N g (nI p) (nI (f + t) - 1) d = some (0, m_set_faultAt d' (nI f)) ∧ KB d d') := by
  have h12 := hI.1
  have fe := hF.1
  have en' := hF.2.1
  have hdig := hF.2.2.2.2.1 rfl
  have wle : ∀ c, (∀ q, q < 9 → q < c → c ≤ e - f → 48 ≤ b (e - 1 - q) ∧ b (e - 1 - q) ≤ 51) → c ≤ e - f → ∀ q, q < 9 → dgw b e c q ≤ 3 := fun c hc hce q hq => by
    unfold dgw
    split
    · have := hc q hq (by omega) hce; omega
    · omega
  intro t
  induction t with
  | zero =>
    intro c g d e1 e2 hT hM hd hS
    obtain ⟨g', rfl⟩ : ∃ g', g = g' + 1 := ⟨g - 1, by omega⟩
    have h1 := hT.1
    have hlt : nI (f + 0) - 1 < nI f := by
      have z : (nI (f + 0) - (1 : Int32)).toInt = ((f + 0 : Nat) : Int) - 1 := pk_sub_toInt (a := f + 0) (b := 1) (by omega) (by omega)
      rw [fa_lt', z, nI_toInt (by omega)]
      omega
    rw [f_X5_waysCome_L29, hM.2.1, if_pos hlt]
    refine ⟨fun _ => ?_, fun z => absurd (fun i i1 i2 => hd i (by omega) i2) z⟩
    obtain ⟨d', q1, q2, q3⟩ := m_next (N := N) hN en' hT hM.2.2.1
    rw [q1, some_bind']
    refine ⟨d', rfl, q2.kb, ?_, q3⟩
    rw [q2.1, show e - f = c by omega]
    exact hS
  | succ t ih =>
    intro c g d e1 e2 hT hM hd hS
    obtain ⟨g', rfl⟩ : ∃ g', g = g' + 1 := ⟨g - 1, by omega⟩
    have h1 := hT.1
    have be := hT.2.2 (f + t) (by omega)
    have hb : bY b n (f + t) = nI (b (f + t)) := if_pos (by omega)
    have dg : 48 ≤ b (f + t) ∧ b (f + t) ≤ 57 := of_decide_eq_true (hdig (f + t) (by omega) (by omega))
    have ei : nI (f + (t + 1)) - 1 = nI (f + t) := nI_pred (f + t)
    have em : nI e - (1 : Int32) - nI (f + t) = nI c := by
      rw [show (1 : Int32) = nI 1 from rfl, pk_sub (by omega), pk_sub (by omega), show e - 1 - (f + t) = c by omega]
    have e6 : ((6 : Int32) + nI e) - (1 : Int32) - nI (f + t) = (6 : Int32) + nI c := by
      rw [lit_nI 6, nI_addn, nI_addn, show (1 : Int32) = nI 1 from rfl, pk_sub (by omega), pk_sub (by omega), show 6 + e - 1 - (f + t) = 6 + c by omega]
    have en : nI (f + t) + (-1) = nI (f + t) - 1 := by rw [Int32.sub_eq_add_neg]
    have ew : nI (b (f + t)) - (48 : Int32) = nI (b (f + t) - 48) := pk_sub (b := 48) (by omega)
    rw [f_X5_waysCome_L29, hM.2.1, hM.2.2.1, ei, if_neg (nI_nlt (by omega) (by omega)), m_byte hT (by omega), some_bind', hb, lt_eq, ew, em, e6, lt_eq, en, m_fails hM, bd2_some, ckz01 (Or.inl rfl), some_bind']
    by_cases c1 : b (f + t) ≤ 51
    · rw [if_pos (show nI (b (f + t) - 48) ≤ (3 : Int32) from nI_le (show b (f + t) - 48 ≤ 3 by omega) (by decide))]
      have hd' : ∀ i, f + t ≤ i → i < e → 48 ≤ b i ∧ b i ≤ 51 := fun i i1 i2 => by
        by_cases ci : i = f + t
        · rw [ci]; exact ⟨dg.1, c1⟩
        · exact hd i (by omega) i2
      by_cases c9 : 9 ≤ c
      · rw [if_pos (show (9 : Int32) ≤ nI c from nI_le c9 (by omega))]
        have ek : dgw b e c = dgw b e (c + 1) := by
          funext q
          unfold dgw
          by_cases cl : q < c ∧ q < 9
          · rw [if_pos cl, if_pos (by omega)]
          · rw [if_neg cl, if_neg (by omega)]
        exact ih (c + 1) g' d (by omega) (by omega) hT hM hd' (by rw [← ek]; exact hS)
      · have hIc : Inv (wset a p (dgw b e c)) := wset_inv hI (wle c (fun q _ q2 _ => hd (e - 1 - q) (by omega) (by omega)) (by omega))
        obtain ⟨d1, p1, p2, p3, -⟩ := m_putw N hIc hS (i := p) (q := c) hp (by omega) (b (f + t) - 48)
        have ek : va_up (dgw b e c) c (b (f + t) - 48) = dgw b e (c + 1) := by
          funext q
          by_cases cq : q = c
          · rw [cq, va_up_s]; unfold dgw; rw [if_pos (by omega), show e - 1 - c = f + t by omega]
          · rw [va_up_n _ _ cq]; unfold dgw
            by_cases cl : q < c ∧ q < 9
            · rw [if_pos cl, if_pos (by omega)]
            · rw [if_neg cl, if_neg (by omega)]
        rw [setw_wset, ek] at p2
        have pk : f_X5_puts N (nI p) ((6 : Int32) + nI c) (nI (b (f + t) - 48)) d = some (m_set_s d (upd (m_s d) (21 + 15 * p + (6 + c)) (nI (b (f + t) - 48)))) := by
          rw [lit_nI 6, nI_addn]
          exact m_puts N d (by omega) (by omega) _
        have ed : d1 = m_set_s d (upd (m_s d) (21 + 15 * p + (6 + c)) (nI (b (f + t) - 48))) := Option.some.inj (p1.symm.trans pk)
        have hM1 : MS d1 2 f e v := by rw [ed]; exact ⟨hM.1, hM.2.1, hM.2.2.1, hM.2.2.2⟩
        have kb1 : KB d d1 := by rw [ed]; exact KB.s _ _
        rw [if_neg (show ¬ (9 : Int32) ≤ nI c from nI_ge (show c < 9 by omega) (by decide)), p1, some_bind', lt_eq]
        obtain ⟨w1, w2⟩ := ih (c + 1) g' d1 (by omega) (by omega) (hT.kb kb1) hM1 hd' p2
        refine ⟨fun z => ?_, fun z => ?_⟩
        · obtain ⟨d', v1, v2, v3, v4⟩ := w1 z
          exact ⟨d', v1, kb1.tr v2, v3, v4⟩
        · obtain ⟨d', v1, v2⟩ := w2 z
          exact ⟨d', v1, kb1.tr v2⟩
    · rw [if_neg (show ¬ nI (b (f + t) - 48) ≤ (3 : Int32) from nI_ge (show 3 < b (f + t) - 48 by omega) (by omega))]
      exact ⟨fun z => absurd (z (f + t) (by omega) (by omega)).2 c1, fun _ => ⟨d, rfl, KB.rf d⟩⟩
end ITEM
