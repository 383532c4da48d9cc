/-! ===== OPERATION: valley ===== -/
theorem wm_k {b : Nat → Nat} {k f e w : Nat} (h : k ≠ 1) : WM b k f e w = false := by
  unfold WM
  rw [decide_eq_false (fun z => h z.1), Bool.false_and]
section ITEMS
variable {N : Nat} {b : Nat → Nat} {n : Nat} {T : TD}
theorem item_k {o : VD} {k f e u v : Nat} (hN : 5000 ≤ N) (hT : BTx b n T) (hF : TF b n k f e u v) (h : k ≠ 1) : f_X2_readItem N ((T, nI k, nI f, nI e, nI u, 0) : RD) o = some (((T, nI k, nI f, nI e, nI u, 1) : RD), o) := by
  have e0 : kdv b k f e = 0 := by
    unfold kdv
    rw [wm_k h, wm_k h, wm_k h, wm_k h, wm_k h, wm_k h]
    rfl
  unfold f_X2_readItem
  rw [x_kindHere hN hT hF, some_bind', e0, if_pos (show enc 0 = -1 from rfl), x_word hN hT (by decide) hF.2.2.1 hF.1 hF.2.1, some_bind', if10, wm_k h, if_neg (by decide), x_word hN hT (by decide) hF.2.2.1 hF.1 hF.2.1, some_bind', if10, wm_k h, if_neg (by decide), lt_eq, rt_faulty]
/-- the whole text on both sides -/
def VS (b : Nat → Nat) (n : Nat) (N : Nat) (T : TD) (o0 : VD) (d0 : MD) (X : Option (Int32 × RD × VD)) (M : Option (Int32 × MD)) : Prop := ∃ res r' o' c z d1, X = some (res, r', o') ∧ r_tape r' = T ∧ v_children o' 12 = v_children o0 12 ∧ M = f_X5_valley_J77 N (nI c) z d1 ∧ KB d0 d1 ∧ ((z = 1 ∧ res = nI c ∧ 0 < c ∧ c ≤ 120 ∧ ∃ a', Inv a' ∧ VR a' o' ∧ SR a' (m_s d1)) ∨ (z = 0 ∧ ∃ g, g ≤ n ∧ res = -1 - nI g ∧ m_faultAt d1 = nI g))
theorem items_L (hN : 5000 ≤ N) (hT : BTx b n T) : ∀ (t i g g' : Nat) (o : VD) (d : MD) (a : AS) (k f e u v : Nat), i + t = 121 → 0 < i → t < g → t < g' → (i = 1 ∨ i ≤ e) → BTm b n d → Inv a → VR a o → SR a (m_s d) → TF b n k f e u v → MS d k f e v →
    VS b n N T o d (f_X2_readItems_L16 N g (nI i) ((T, nI k, nI f, nI e, nI u, 0) : RD) o) (bd2 (f_X5_itemHere N d) fun y d2 => f_X5_valley_L27 N g' (nI i) y d2) := by
  have h120 := hT.1
  intro t
  induction t with
  | zero =>
    intro i g g' o d a k f e u v e1 e2 e3 e4 he hTm hI hV hS hF hM
    have := hF.2.1
    omega
  | succ t ih =>
    intro i g g' o d a k f e u v e1 e2 e3 e4 he hTm hI hV hS hF hM
    obtain ⟨g, rfl⟩ : ∃ q, g = q + 1 := ⟨g - 1, by omega⟩
    obtain ⟨g', rfl⟩ : ∃ q, g' = q + 1 := ⟨g' - 1, by omega⟩
    obtain ⟨r', v', z, d', q1, q2, q3, q4, q5⟩ := i_item (L := e) hN hT hTm hI hV hS hF hM (Nat.le_refl e)
    rw [f_X2_readItems_L16, if_neg (show ¬ (120 : Int32) < nI i from nI_nlt (show i ≤ 120 by omega) (by decide)), q1, bd2_some, q2, bd2_some, f_X5_valley_L27]
    unfold f_X2_readItems_J43
    rcases q5 with ⟨rfl, a', k', f', e', u', v2, hI', hV', hS', rfl, hF', hM', hL'⟩ | ⟨rfl, kk, ee, uu, gg, rfl, hfa, hg⟩
    · have k1 : k = 1 := Classical.byContradiction (fun c => by
        have w := item_k (o := o) hN hT hF c
        have w2 := (Prod.mk.inj (Option.some.inj (q1.symm.trans w))).1
        have w3 := congrArg r_isFaulty w2
        rw [rg_faulty, rg_faulty] at w3
        revert w3
        decide)
      have ge1 : f < e := hF.2.2.2.1 (by omega)
      have k4 := hF'.2.2.1
      rw [rg_faulty, if_pos rfl, if_pos rfl, rg_token, rg_start, if_neg (show ¬ (1 : Int32) = 0 by decide), hM'.1]
      unfold f_X5_valley_J54 f_X5_valley_J72 f_X5_valley_J76
      rw [if_neg (show ¬ (1 : Int32) = 0 by decide), hM'.1]
      by_cases c0 : k' = 0
      · subst c0
        rw [if_pos (show nI 0 = (0 : Int32) from rfl), if_neg (show ¬ nI 0 = (3 : Int32) by decide), if_pos (show nI 0 = (0 : Int32) from rfl)]
        exact ⟨nI i, _, v', i, 1, d', rfl, rfl, q3, rfl, q4, Or.inl ⟨rfl, rfl, e2, by omega, a', hI', hV', hS'⟩⟩
      · rw [if_neg (show ¬ nI k' = (0 : Int32) from nI_ne0 (by omega) (by omega)), if_neg (show ¬ nI k' = (0 : Int32) from nI_ne0 (by omega) (by omega))]
        by_cases c3 : k' = 3
        · subst c3
          have lt' : f' < e' := hF'.2.2.2.1 (by omega)
          obtain ⟨d3, s1, s2, s3⟩ := m_next (N := N) hN hF'.2.1 (hTm.kb q4) hM'.2.2.1
          have hF3 := tok_ok (b := b) hF'.2.1
          have nn := nf_ok (b := b) hF'.2.1
          rw [if_pos (show nI 3 = (3 : Int32) from rfl), if_pos (show nI 3 = (3 : Int32) from rfl), x_next hN hT hF'.2.1, some_bind', lt_eq, nI_1, s1, some_bind']
          have z := ih (i + 1) g g' v' d3 a' (nk b n e') (nf b n e') (ne' b n e') (nu b n e') (nv b n e') (by omega) (by omega) (by omega) (by omega) (Or.inr (by have := hF3.1; omega)) ((hTm.kb q4).kt s2) hI' hV' (by rw [s2.1]; exact hS') hF3 s3
          have kb := q4.tr s2.kb
          obtain ⟨res, r3, o3, c, zz, d4, w1, w2, w3, w4, w5, w6⟩ := z
          refine ⟨res, r3, o3, c, zz, d4, w1, w2, w3.trans q3, ?_, kb.tr w5, w6⟩
          rw [← w4]
          rfl
        · rw [if_neg (by rw [lit_nI 3, nI_eq_iff (by omega) (by decide)]; exact c3), if_neg (by rw [lit_nI 3, nI_eq_iff (by omega) (by decide)]; exact c3), m_fails hM', bd2_some, if_pos rfl]
          exact ⟨-1 - nI f', _, v', i, 0, m_set_faultAt d' (nI f'), rfl, rfl, q3, rfl, q4.tr (KT.fa _ _).kb, Or.inr ⟨rfl, f', Nat.le_trans hF'.1 hF'.2.1, rfl, rfl⟩⟩
    · rw [rg_faulty, if_neg (show ¬ (1 : Int32) = 0 by decide), if_neg (show ¬ (1 : Int32) = 0 by decide), rg_start, if_pos rfl]
      unfold f_X5_valley_J54 f_X5_valley_J76
      rw [if_pos rfl]
      exact ⟨-1 - nI gg, _, v', i, 0, d', rfl, rfl, q3, rfl, q4, Or.inr ⟨rfl, gg, hg, rfl, hfa⟩⟩
end ITEMS
section OPV
variable {N : Nat} {x : XD} {m : MD} {a : AS}
theorem xr_tr (x : XD) (v : VD) : x_reader (x_set_trial x v) = x_reader x := rfl
theorem tm1 {g : Nat} (hg : g ≤ 120) : (-1 : Int32) - nI g ≤ 0 := by
  have e1 : ((-1 : Int32) - nI g).toInt = -1 - (g : Int) := by
    have e : (-1 : Int32).toInt = -1 := by decide
    rw [Int32.toInt_sub, nI_toInt (by omega), e, Int.bmod_eq_of_le (by omega) (by omega)]
  have e0 : (0 : Int32).toInt = 0 := by decide
  rw [fa_le', e1, e0]
  omega
theorem op_valley (hN : 5000 ≤ N) (h : Sys x m) : Ok (f_X4_valley N x) (f_X5_valley N m) := by
  obtain ⟨a, hI, hS, hV, hR⟩ := h
  obtain ⟨h1, h2, ⟨n, l1, l2, l3, l4⟩, h4, h5, h6⟩ := hR
  obtain ⟨u, t1, t2, t3⟩ := x_try (N := N) hI hV
  obtain ⟨g, r1, r2⟩ := m_copy hN (m_s m) (m_before m)
  have hb : ∀ i, i < n → (t_bytes (r_tape (x_reader x)) i &&& 255).toNatClampNeg < 256 ∧ t_bytes (r_tape (x_reader x)) i &&& 255 = nI (t_bytes (r_tape (x_reader x)) i &&& 255).toNatClampNeg := fun i _ => by
    obtain ⟨j, j1, j2⟩ := pk_andE (t_bytes (r_tape (x_reader x)) i) (m := 255) 8 (by decide)
    rw [j2, nI_clamp (by omega)]
    exact ⟨j1, rfl⟩
  have hT : BTx (fun i => (t_bytes (r_tape (x_reader x)) i &&& 255).toNatClampNeg) n (r_tape (x_reader x)) := ⟨l1, l3, hb⟩
  have hTm : BTm (fun i => (t_bytes (r_tape (x_reader x)) i &&& 255).toNatClampNeg) n m := ⟨l1, l2, fun i hi => ⟨(hb i hi).1, (l4 i hi).trans (hb i hi).2⟩⟩
  generalize (fun i => (t_bytes (r_tape (x_reader x)) i &&& 255).toNatClampNeg) = b at hT hTm
  have z1 : KR m (m_set_to (m_set_before m g) 0) := ⟨rfl, rfl, rfl, rfl, rfl, rfl, rfl, rfl, rfl⟩
  have z2 : m_s (m_set_to (m_set_before m g) 0) = m_s m := rfl
  have z3 : m_before (m_set_to (m_set_before m g) 0) = g := rfl
  have z4 : m_to (m_set_to (m_set_before m g) 0) = nI 0 := rfl
  unfold f_X4_valley f_X5_valley f_X2_readItems
  have rr : r_set_isFaulty (r_set_end (x_reader x) 0) 0 = ((r_tape (x_reader x), r_token (x_reader x), r_start (x_reader x), nI 0, r_number (x_reader x), 0) : RD) := rfl
  rw [t1, some_bind', lt_eq, xr_tr, xt_get, r1, some_bind', lt_eq, lt_eq, lt_eq, lt_eq, rr]
  generalize m_set_to (m_set_before m g) 0 = d0 at z1 z2 z3 z4 ⊢
  have hTm0 : BTm b n d0 := by
    obtain ⟨w1, w2, w3⟩ := hTm
    refine ⟨w1, z1.2.2.2.2.1.trans w2, fun i hi => ⟨(w3 i hi).1, ?_⟩⟩
    rw [z1.2.2.2.1]
    exact (w3 i hi).2
  obtain ⟨d1, s1, s2, s3⟩ := m_next (N := N) hN (Nat.zero_le n) hTm0 z4
  have hF := tok_ok (b := b) (Nat.zero_le n)
  have hS1 : SR a (m_s d1) := by rw [s2.1, z2]; exact hS
  rw [x_next hN hT (Nat.zero_le n), some_bind', s1, some_bind']
  obtain ⟨res, r', o', c, z, d2, w1, w2, w3, w4, w5, w6⟩ := items_L (N := N) hN hT 120 1 N N u d1 a (nk b n 0) (nf b n 0) (ne' b n 0) (nu b n 0) (nv b n 0) (by omega) (by omega) (by omega) (by omega) (Or.inl rfl) (hTm0.kt s2) hI t2 hS1 hF s3
  have w1 : f_X2_readItems_L16 N N 1 ((r_tape (x_reader x), nI (nk b n 0), nI (nf b n 0), nI (ne' b n 0), nI (nu b n 0), 0) : RD) u = some (res, r', o') := w1
  have w4 : (bd2 (f_X5_itemHere N d1) fun y d2 => f_X5_valley_L27 N N 1 y d2) = f_X5_valley_J77 N (nI c) z d2 := w4
  have kr : KR m d2 := (z1.tr s2.2.2).tr w5.2
  have cc : v_children o' 12 = -1 := (w3.trans t3).trans h2
  rw [w1, bd3_some, lt_eq, w4]
  unfold f_X5_valley_J77 f_X5_valley_J98 f_X1_clear
  rw [lt_eq]
  obtain ⟨k1, k2, k3, k4, k5, k6, k7, k8, k9⟩ := kr
  have sh : ∀ (d' : MD), m_bitsOf d' = m_bitsOf d2 → m_sizes d' = m_sizes d2 → m_numbers d' = m_numbers d2 → ∀ t, t < 4 → SHR (x_sheets x t) d' t := fun d' e1 e2 e3 t ht => by
    have zz := h4 t ht
    unfold SHR at zz ⊢
    rw [e1, e2, e3, k6, k7, k8]
    exact zz
  have tl' : ∀ (d' : MD), m_findings d' = m_findings d2 → TLR (x_tally x) d' := fun d' e1 => by
    unfold TLR at h5 ⊢
    rw [e1, k3]
    exact h5
  have kp : ∀ (x' : XD) (d' : MD), x_kept x' = x_kept x → x_isKept x' = x_isKept x → m_kept d' = m_kept d2 → m_isKept d' = m_isKept d2 → KPR x' d' := fun x' d' e1 e2 e3 e4 => by
    unfold KPR at h1 ⊢
    rw [e1, e2, e3, e4, k1, k2]
    exact h1
  rcases w6 with ⟨rfl, rfl, c1, c2, a', hI', hV', hS'⟩ | ⟨rfl, gg, hg, rfl, hfa⟩
  · obtain ⟨v2, y1, y2, -⟩ := v_take N hI' hV' (x_valley x)
    have vv : x_valley (x_set_trial (x_set_reader (x_set_trial x u) r') o') = x_valley x := rfl
    have tt : x_trial (x_set_trial (x_set_reader (x_set_trial x u) r') o') = o' := rfl
    rw [if_neg (nI_nle c1 (by omega)), vv, tt, y1, some_bind', lt_eq, lt_eq, lt_eq, bd2_some, lt_eq, lt_eq, if_neg (by decide), if_neg (by decide)]
    exact ⟨nI c, _, _, rfl, rfl, a', hI', hS', y2, kp _ _ rfl rfl rfl rfl, cc, ⟨0, by omega, rfl, rfl, fun i hi => absurd hi (by omega)⟩, sh _ rfl rfl rfl, tl' _ rfl, k9.trans h6⟩
  · obtain ⟨s', y1, y2⟩ := m_copy hN (m_before (m_set_taped d2 0)) (m_s (m_set_taped d2 0))
    have bb : m_before (m_set_taped d2 0) = g := w5.1.trans (s2.2.1.trans z3)
    rw [bb] at y1 y2
    have ff : m_faultAt (m_set_s (m_set_taped d2 0) s') = nI gg := hfa
    rw [if_pos (tm1 (by omega)), lt_eq, lt_eq, bd2_some, lt_eq, if_pos rfl, bb, y1, some_bind', lt_eq, if_pos rfl, ff]
    have hSb : SR a s' := SR_cong hI (fun j hj => (y2 j hj).trans (r2 j hj)) hS
    exact ⟨-1 - nI gg, _, _, rfl, rfl, a, hI, hSb, hV, kp _ _ rfl rfl rfl rfl, cc, ⟨0, by omega, rfl, rfl, fun i hi => absurd hi (by omega)⟩, sh _ rfl rfl rfl, tl' _ rfl, k9.trans h6⟩
end OPV
