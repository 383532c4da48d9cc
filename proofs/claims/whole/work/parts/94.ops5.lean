/-! ===== OPERATIONS: what to change ===== -/
def wset (a : AS) (i : Nat) (w : Nat → Nat) : AS := a_set_wy a (va_up (a_wy a) i w)
theorem setw_eq (a : AS) (i m x : Nat) : setw a i m x = wset a i (va_up (a_wy a i) m x) := rfl
theorem wset_wset (a : AS) (i : Nat) (w w' : Nat → Nat) : wset (wset a i w) i w' = wset a i w' := by
  unfold wset
  rw [as_wy2, a_wy_swy, bx_uu]
theorem wset_wy (a : AS) (i : Nat) (w : Nat → Nat) : a_wy (wset a i w) i = w := va_up_s _ _ _
theorem wset_wyn (a : AS) {i j : Nat} (w : Nat → Nat) (h : j ≠ i) : a_wy (wset a i w) j = a_wy a j := va_up_n _ _ h
theorem wset_id (a : AS) (i : Nat) : wset a i (a_wy a i) = a := by
  unfold wset
  rw [va_up_id, as_wy_id]
theorem setw_wset (a : AS) (i m x : Nat) (w : Nat → Nat) : setw (wset a i w) i m x = wset a i (va_up w m x) := by
  rw [setw_eq, wset_wy, wset_wset]
theorem setw_setw (a : AS) (i m x y : Nat) : setw (setw a i m x) i m y = setw a i m y := by
  rw [setw_eq a i m x, setw_wset, bx_uu, ← setw_eq]
theorem setw_same (a : AS) (i m : Nat) : setw a i m (a_wy a i m) = a := by
  rw [setw_eq, va_up_id, wset_id]
theorem wset_inv {a : AS} (hI : Inv a) {i : Nat} {w : Nat → Nat} (hw : ∀ q, q < 9 → w q ≤ 3) : Inv (wset a i w) := by
  refine ⟨hI.1, hI.2.1, hI.2.2.1, hI.2.2.2.1, fun k hk => ?_⟩
  obtain ⟨q0, q1, q2, q3, q4, q5, q6⟩ := hI.2.2.2.2 k hk
  refine ⟨q0, q1, q2, q3, q4, q5, fun q hq => ?_⟩
  show va_up (a_wy a) i w k q ≤ 3
  by_cases c : k = i
  · rw [c, va_up_s]; exact hw q hq
  · rw [va_up_n _ _ c]; exact q6 q hq
theorem VR.ws {a : AS} {v : VD} {i : Nat} {w w' : Nat → Nat} {L : Int32} (h : VR (wset a i w) v) (hL : LK L w') : VR (wset a i w') (v_set_looks v (upd (v_looks v) i L)) := by
  have z := h.wy (i := i) hL
  have e : a_set_wy (wset a i w) (va_up (a_wy (wset a i w)) i w') = wset a i w' := wset_wset a i w w'
  rw [e] at z
  exact z
def gst (a : AS) (one own whom j : Nat) : Bool := heir (setw a one (j / 4) (j % 4)) own == whom + 1
def lsr (o : Nat) : Int32 := if o = 0 then -1 else nI (10 * ((o - 1) / 4) + (o - 1) % 4)
theorem fs_go (p : Nat → Bool) {k t : Nat} (h : k < t) : fs p k (t - k) = if p k then k + 1 else fs p (k + 1) (t - (k + 1)) := by
  obtain ⟨u, hu⟩ : ∃ u, t - k = u + 1 := ⟨t - k - 1, by omega⟩
  rw [hu, fs, show t - (k + 1) = u by omega]
section STEP
variable {N : Nat} {a : AS} {x0 : XD} {m0 : MD} {one own whom : Nat}
def XT (x0 : XD) (a : AS) (one : Nat) (d : XD) : Prop := x_valley d = x_valley x0 ∧ KX x0 d ∧ ∃ w, VR (wset a one w) (x_trial d)
theorem XT.put {d : XD} (h : XT x0 a one d) {L : Int32} {w : Nat → Nat} (hL : LK L w) : XT x0 a one (x_set_trial d (v_set_looks (x_trial d) (upd (v_looks (x_trial d)) one L))) ∧ VR (wset a one w) (x_trial (x_set_trial d (v_set_looks (x_trial d) (upd (v_looks (x_trial d)) one L)))) := by
  obtain ⟨h1, h2, w', h3⟩ := h
  have z := h3.ws hL
  exact ⟨⟨h1, h2.tr (KX.t _ _ rfl), w, z⟩, z⟩
theorem x_step24 (hN : 5000 ≤ N) (hI : Inv a) (hV : VR a (x_valley x0)) (h1 : one < a_n a) (h2 : own < a_n a) (h3 : whom < a_n a) {K : Int32 → Int32 → Int32 → Int32 → XD → Option (Int32 × XD)} {m : Nat} (hm : m < 9)
    (hK : ∀ d, XT x0 a one d → ∃ d', K (nI one) (nI own) (nI whom) (nI (m + 1)) d = some (lsr (fs (gst a one own whom) (4 * (m + 1)) (36 - 4 * (m + 1))), d') ∧ XT x0 a one d') : ∀ (t w f : Nat) (d : XD), w + t = 4 → t < f → XT x0 a one d →
    ∃ d', f_X4_leastStep_L24 N K f (nI one) (nI own) (nI whom) (nI m) (nI w) d = some (lsr (fs (gst a one own whom) (4 * m + w) (36 - (4 * m + w))), d') ∧ XT x0 a one d' := by
  have hn := hI.1
  intro t
  induction t with
  | zero =>
    intro w f d e1 e2 hX
    obtain ⟨f', rfl⟩ : ∃ f', f = f' + 1 := ⟨f - 1, by omega⟩
    obtain rfl : w = 4 := by omega
    rw [f_X4_leastStep_L24, if_pos (show (4 : Int32) ≤ nI 4 from nI_le (Nat.le_refl 4) (by decide)), lt_eq, nI_1]
    exact hK d hX
  | succ t ih =>
    intro w f d e1 e2 hX
    obtain ⟨f', rfl⟩ : ∃ f', f = f' + 1 := ⟨f - 1, by omega⟩
    have q := (hV.2.2.2.2.2.2 one h1).2.2.2.2.2
    obtain ⟨R, r1, r2⟩ := x_withWay (N := N) q (m := m) (x := w) hm (by omega)
    obtain ⟨hX', hV'⟩ := hX.put r2
    have hI' : Inv (setw a one m w) := hI.wy (by omega)
    rw [f_X4_leastStep_L24, if_neg (show ¬ (4 : Int32) ≤ nI w from nI_ge (show w < 4 by omega) (by decide)), hX.1, rd_nI (by omega) (by decide), some_bind', r1, some_bind', ck_nI (by omega) (by decide), some_bind', lt_eq, nI_clamp (by omega)]
    generalize x_set_trial d (v_set_looks (x_trial d) (upd (v_looks (x_trial d)) one R)) = d2 at hX' hV' ⊢
    have hl := heir_le (setw a one m w) own
    have hl2 : a_n (setw a one m w) = a_n a := rfl
    have hh' : f_X3_heirFor N (nI own) (x_trial d2) = some (enc (heir (setw a one m w) own)) := v_heir hN hI' hV' h2
    have ge : gst a one own whom (4 * m + w) = (heir (setw a one m w) own == whom + 1) := by
      unfold gst
      rw [show (4 * m + w) / 4 = m by omega, show (4 * m + w) % 4 = w by omega]
    rw [hh', some_bind', fs_go _ (show 4 * m + w < 36 by omega), ge]
    by_cases c : heir (setw a one m w) own = whom + 1
    · rw [if_pos (by rw [enc_eq (by omega) (by omega)]; exact c), if_pos (by rw [c]; simp), lit_nI 10, nI_muln, nI_addn]
      refine ⟨d2, ?_, hX'⟩
      unfold lsr
      rw [if_neg (by omega), Nat.add_sub_cancel, show (4 * m + w) / 4 = m by omega, show (4 * m + w) % 4 = w by omega]
    · rw [if_neg (by rw [enc_eq (by omega) (by omega)]; exact c), if_neg (by simp [c]), lt_eq, nI_1]
      exact ih (w + 1) f' d2 (by omega) (by omega) hX'
theorem x_step14 (hN : 5000 ≤ N) (hI : Inv a) (hV : VR a (x_valley x0)) (h1 : one < a_n a) (h2 : own < a_n a) (h3 : whom < a_n a) : ∀ (t m f : Nat) (d : XD), m + t = 9 → t < f → XT x0 a one d →
    ∃ d', f_X4_leastStep_L14 N f (nI one) (nI own) (nI whom) (nI m) d = some (lsr (fs (gst a one own whom) (4 * m) (36 - 4 * m)), d') ∧ XT x0 a one d' := by
  intro t
  induction t with
  | zero =>
    intro m f d e1 e2 hX
    obtain ⟨f', rfl⟩ : ∃ f', f = f' + 1 := ⟨f - 1, by omega⟩
    obtain rfl : m = 9 := by omega
    rw [f_X4_leastStep_L14, if_pos (show (9 : Int32) ≤ nI 9 from nI_le (Nat.le_refl 9) (by decide))]
    exact ⟨d, rfl, hX⟩
  | succ t ih =>
    intro m f d e1 e2 hX
    obtain ⟨f', rfl⟩ : ∃ f', f = f' + 1 := ⟨f - 1, by omega⟩
    rw [f_X4_leastStep_L14, if_neg (show ¬ (9 : Int32) ≤ nI m from nI_ge (show m < 9 by omega) (by decide))]
    exact x_step24 hN hI hV h1 h2 h3 (K := f_X4_leastStep_L14 N f') (m := m) (by omega) (fun d hd => ih (m + 1) f' d (by omega) (by omega) hd) 4 0 N d (by omega) (by omega) hX
theorem x_step (hN : 5000 ≤ N) (hI : Inv a) (hV : VR a (x_valley x0)) (h1 : one < a_n a) (h2 : own < a_n a) (h3 : whom < a_n a) : ∃ d', f_X4_leastStep N (nI one) (nI own) (nI whom) x0 = some (lsr (fs (gst a one own whom) 0 36), d') ∧ x_valley d' = x_valley x0 ∧ KX x0 d' := by
  obtain ⟨t, t1, t2, t3⟩ := x_try (N := N) hI hV
  unfold f_X4_leastStep
  rw [t1, some_bind', lt_eq]
  obtain ⟨d', r1, r2, r3, -⟩ := x_step14 hN hI hV h1 h2 h3 9 0 N (x_set_trial x0 t) (by omega) (by omega) ⟨rfl, KX.t _ _ t3, a_wy a one, by rw [wset_id]; exact t2⟩
  exact ⟨d', r1, r2, r3⟩
theorem m_putw (N : Nat) {d : MD} (hI : Inv a) (hS : SR a (m_s d)) {i q : Nat} (hi : i < a_n a) (hq : q < 9) (y : Nat) : ∃ d', f_X5_puts N (nI i) ((6 : Int32) + nI q) (nI y) d = some d' ∧ SR (setw a i q y) (m_s d') ∧ KR d d' ∧ m_close d' = m_close d := by
  have hn := hI.1
  rw [lit_nI 6, nI_addn, m_puts N d (by omega) (by omega)]
  exact ⟨_, rfl, hS.wy y hi hq, KR.s _ _, rfl⟩
def MT (m0 : MD) (a : AS) (d : MD) : Prop := SR a (m_s d) ∧ KR m0 d
theorem m_step25 (hN : 5000 ≤ N) (hI : Inv a) (h1 : one < a_n a) (h2 : own < a_n a) (h3 : whom < a_n a) (hne : heir a own ≠ whom + 1) {K : Int32 → Int32 → Int32 → Int32 → MD → Option (Int32 × MD)} {m : Nat} (hm : m < 9)
    (hK : ∀ d, MT m0 a d → ∃ d', K (nI one) (nI own) (nI whom) (nI (m + 1)) d = some (lsr (fs (gst a one own whom) (4 * (m + 1)) (36 - 4 * (m + 1))), d') ∧ MT m0 a d') : ∀ (t w f : Nat) (d : MD), w + t = 4 → t < f → MT m0 a d →
    ∃ d', f_X5_leastChange_L25 N K f (nI one) (nI own) (nI whom) (nI m) (nI (a_wy a one m)) (nI w) d = some (lsr (fs (gst a one own whom) (4 * m + w) (36 - (4 * m + w))), d') ∧ MT m0 a d' := by
  have hn := hI.1
  have b0 := (hI.2.2.2.2 one h1).2.2.2.2.2.2 m hm
  intro t
  induction t with
  | zero =>
    intro w f d e1 e2 hX
    obtain ⟨f', rfl⟩ : ∃ f', f = f' + 1 := ⟨f - 1, by omega⟩
    obtain rfl : w = 4 := by omega
    rw [f_X5_leastChange_L25, if_pos (show (4 : Int32) ≤ nI 4 from nI_le (Nat.le_refl 4) (by decide)), lt_eq, nI_1]
    exact hK d hX
  | succ t ih =>
    intro w f d e1 e2 hX
    obtain ⟨f', rfl⟩ : ∃ f', f = f' + 1 := ⟨f - 1, by omega⟩
    obtain ⟨d1, p1, p2, p3, -⟩ := m_putw N hI hX.1 h1 hm w
    have hI' : Inv (setw a one m w) := hI.wy (by omega)
    obtain ⟨d2, r1, r2, r3, -⟩ := m_putw N hI' p2 (i := one) h1 hm (a_wy a one m)
    rw [setw_setw, setw_same] at r2
    have hX2 : MT m0 a d2 := ⟨r2, (hX.2.tr p3).tr r3⟩
    have ge : gst a one own whom (4 * m + w) = (heir (setw a one m w) own == whom + 1) := by
      unfold gst
      rw [show (4 * m + w) / 4 = m by omega, show (4 * m + w) % 4 = w by omega]
    rw [f_X5_leastChange_L25, if_neg (show ¬ (4 : Int32) ≤ nI w from nI_ge (show w < 4 by omega) (by decide)), p1, some_bind', fs_go _ (show 4 * m + w < 36 by omega), ge]
    unfold f_X5_leastChange_J63 f_X5_leastChange_J64
    rw [r1, some_bind', if_pos rfl]
    by_cases c0 : w = a_wy a one m
    · rw [if_pos (by rw [c0]), lt_eq, nI_1, if_neg (by rw [c0, setw_same]; simp [hne])]
      exact ih (w + 1) f' d2 (by omega) (by omega) hX2
    · have hl := heir_le (setw a one m w) own
      have hl2 : a_n (setw a one m w) = a_n a := rfl
      rw [if_neg (by rw [nI_eq_iff (by omega) (by omega)]; exact c0), m_heir hN hI' p2 h2, some_bind']
      by_cases c : heir (setw a one m w) own = whom + 1
      · rw [if_pos (by rw [enc_eq (by omega) (by omega)]; exact c), if_pos (by rw [c]; simp), some_bind', if_neg (by decide), lit_nI 10, nI_muln, nI_addn]
        refine ⟨d2, ?_, hX2⟩
        unfold lsr
        rw [if_neg (by omega), Nat.add_sub_cancel, show (4 * m + w) / 4 = m by omega, show (4 * m + w) % 4 = w by omega]
      · rw [if_neg (by rw [enc_eq (by omega) (by omega)]; exact c), if_neg (by simp [c]), lt_eq, nI_1]
        exact ih (w + 1) f' d2 (by omega) (by omega) hX2
theorem m_step3 (hN : 5000 ≤ N) (hI : Inv a) (h1 : one < a_n a) (h2 : own < a_n a) (h3 : whom < a_n a) (hne : heir a own ≠ whom + 1) : ∀ (t m f : Nat) (d : MD), m + t = 9 → t < f → MT m0 a d →
    ∃ d', f_X5_leastChange_L3 N f (nI one) (nI own) (nI whom) (nI m) d = some (lsr (fs (gst a one own whom) (4 * m) (36 - 4 * m)), d') ∧ MT m0 a d' := by
  intro t
  induction t with
  | zero =>
    intro m f d e1 e2 hX
    obtain ⟨f', rfl⟩ : ∃ f', f = f' + 1 := ⟨f - 1, by omega⟩
    obtain rfl : m = 9 := by omega
    rw [f_X5_leastChange_L3, if_pos (show (9 : Int32) ≤ nI 9 from nI_le (Nat.le_refl 9) (by decide))]
    exact ⟨d, rfl, hX⟩
  | succ t ih =>
    intro m f d e1 e2 hX
    obtain ⟨f', rfl⟩ : ∃ f', f = f' + 1 := ⟨f - 1, by omega⟩
    rw [f_X5_leastChange_L3, if_neg (show ¬ (9 : Int32) ≤ nI m from nI_ge (show m < 9 by omega) (by decide)), m_wy hI hX.1 h1 (by omega), some_bind']
    exact m_step25 hN hI h1 h2 h3 hne (K := f_X5_leastChange_L3 N f') (m := m) (by omega) (fun d hd => ih (m + 1) f' d (by omega) (by omega) hd) 4 0 N d (by omega) (by omega) hX
theorem m_step (hN : 5000 ≤ N) (hI : Inv a) (hS : SR a (m_s m0)) (h1 : one < a_n a) (h2 : own < a_n a) (h3 : whom < a_n a) (hne : heir a own ≠ whom + 1) : ∃ d', f_X5_leastChange N (nI one) (nI own) (nI whom) m0 = some (lsr (fs (gst a one own whom) 0 36), d') ∧ SR a (m_s d') ∧ KR m0 d' := by
  unfold f_X5_leastChange
  exact m_step3 hN hI h1 h2 h3 hne 9 0 N m0 (by omega) (by omega) ⟨hS, KR.rf m0⟩
theorem lsr_m1 {o : Nat} (ho : o ≤ 36) : (lsr o = -1) = (o = 0) := by
  apply propext
  unfold lsr
  by_cases c : o = 0
  · rw [if_pos c]; exact ⟨fun _ => c, fun _ => rfl⟩
  · rw [if_neg c]; exact ⟨fun e => absurd e (nI_ne_m1 _ (by omega)), fun e => absurd e c⟩
theorem lsr_nn {o : Nat} (ho : o ≤ 36) : (0 ≤ lsr o) = (o ≠ 0) := by
  apply propext
  unfold lsr
  by_cases c : o = 0
  · rw [if_pos c]; exact ⟨fun e => absurd e (by decide), fun e => absurd c e⟩
  · rw [if_neg c]; exact ⟨fun _ => c, fun _ => nI_pos' (by omega)⟩
end STEP
section OPS5
variable {N : Nat} {x : XD} {m : MD} {a : AS}
theorem op_change (hN : 5000 ≤ N) (h : Sys x m) (p1 p2 : Int32) : Ok (f_X4_change N p1 p2 x) (f_X5_change N p1 p2 m) := by
  have hh := h
  obtain ⟨a, hI, hS, hV, hR⟩ := h
  have hn := hI.1
  have bad : Ok (bd2 (f_X4_tell N (-1000000001) x) fun r d => some (r, d)) (bd2 (f_X5_finds N (-1000000001) m) fun r d => some (r, d)) := ok_tell hh _ 0 (by decide) (by decide)
  have late : Ok (bd2 (f_X4_tell N (-1000000005) x) fun r d => some (r, d)) (bd2 (f_X5_finds N (-1000000005) m) fun r d => some (r, d)) := ok_tell hh _ 4 (by decide) (by decide)
  simp only [f_X4_change, f_X5_change, x_two hI hV, m_two hI hS, some_bind', if10]
  by_cases c1 : are2 (a_n a) p1 p2
  · simp only [if_pos c1]
    obtain ⟨i, hi, rfl⟩ := isP_nat hn c1.1
    obtain ⟨j, hj, rfl⟩ := isP_nat hn c1.2.1
    have hl := heir_le a j
    rw [v_lives hI hV hi, some_bind', if10, m_lives hI hS hi, some_bind', if10]
    by_cases c2 : a_lv a i = true
    · rw [if_pos c2, if_pos c2, v_heir hN hI hV hj, some_bind', m_heir hN hI hS hj, some_bind']
      by_cases c3 : heir a j = i + 1
      · rw [if_pos (by rw [enc_eq (by omega) (by omega)]; exact c3), if_pos (by rw [enc_eq (by omega) (by omega)]; exact c3)]
        exact late
      · obtain ⟨d1, q1, q2, q3⟩ := x_step (N := N) (x0 := x) hN hI hV (one := i) (own := j) (whom := i) hi hj hi
        obtain ⟨d2, r1, r2, r3⟩ := m_step (N := N) (m0 := m) hN hI hS (one := i) (own := j) (whom := i) hi hj hi c3
        have fl := fs_le (gst a i j i) 36 0
        rw [if_neg (by rw [enc_eq (by omega) (by omega)]; exact c3), if_neg (by rw [enc_eq (by omega) (by omega)]; exact c3), q1, bd2_some, r1, bd2_some]
        by_cases c4 : fs (gst a i j i) 0 36 = 0
        · rw [if_pos (by rw [lsr_m1 (by omega)]; exact c4), if_neg (by rw [lsr_nn (by omega)]; exact fun z => z c4)]
          exact bad_go hR q3 r3 hI r2 (by rw [q2]; exact hV) _ 3 (by decide) (by decide)
        · rw [if_neg (by rw [lsr_m1 (by omega)]; exact c4), if_pos (by rw [lsr_nn (by omega)]; exact c4)]
          exact ok_go hR _ q3 r3 hI r2 (by rw [q2]; exact hV)
    · rw [if_neg c2, if_neg c2]
      exact late
  · simp only [if_neg c1]; exact bad
theorem op_steer (hN : 5000 ≤ N) (h : Sys x m) (p1 p2 : Int32) : Ok (f_X4_steer N p1 p2 x) (f_X5_steer N p1 p2 m) := by
  have hh := h
  obtain ⟨a, hI, hS, hV, hR⟩ := h
  have hn := hI.1
  have bad : Ok (bd2 (f_X4_tell N (-1000000001) x) fun r d => some (r, d)) (bd2 (f_X5_finds N (-1000000001) m) fun r d => some (r, d)) := ok_tell hh _ 0 (by decide) (by decide)
  have late : Ok (bd2 (f_X4_tell N (-1000000005) x) fun r d => some (r, d)) (bd2 (f_X5_finds N (-1000000005) m) fun r d => some (r, d)) := ok_tell hh _ 4 (by decide) (by decide)
  simp only [f_X4_steer, f_X5_steer, x_two hI hV, m_two hI hS, some_bind', if10]
  by_cases c1 : are2 (a_n a) p1 p2
  · simp only [if_pos c1]
    obtain ⟨i, hi, rfl⟩ := isP_nat hn c1.1
    obtain ⟨j, hj, rfl⟩ := isP_nat hn c1.2.1
    have hl := heir_le a i
    rw [v_lives hI hV hj, some_bind', if10, m_lives hI hS hj, some_bind', if10]
    by_cases c2 : a_lv a j = true
    · rw [if_pos c2, if_pos c2, v_heir hN hI hV hi, some_bind', m_heir hN hI hS hi, some_bind']
      by_cases c3 : heir a i = j + 1
      · rw [if_pos (by rw [enc_eq (by omega) (by omega)]; exact c3), if_pos (by rw [enc_eq (by omega) (by omega)]; exact c3)]
        exact late
      · obtain ⟨d1, q1, q2, q3⟩ := x_step (N := N) (x0 := x) hN hI hV (one := i) (own := i) (whom := j) hi hi hj
        obtain ⟨d2, r1, r2, r3⟩ := m_step (N := N) (m0 := m) hN hI hS (one := i) (own := i) (whom := j) hi hi hj c3
        have fl := fs_le (gst a i i j) 36 0
        rw [if_neg (by rw [enc_eq (by omega) (by omega)]; exact c3), if_neg (by rw [enc_eq (by omega) (by omega)]; exact c3), q1, bd2_some, r1, bd2_some]
        by_cases c4 : fs (gst a i i j) 0 36 = 0
        · rw [if_pos (by rw [lsr_m1 (by omega)]; exact c4), if_neg (by rw [lsr_nn (by omega)]; exact fun z => z c4)]
          exact bad_go hR q3 r3 hI r2 (by rw [q2]; exact hV) _ 3 (by decide) (by decide)
        · rw [if_neg (by rw [lsr_m1 (by omega)]; exact c4), if_pos (by rw [lsr_nn (by omega)]; exact c4)]
          exact ok_go hR _ q3 r3 hI r2 (by rw [q2]; exact hV)
    · rw [if_neg c2, if_neg c2]
      exact late
  · simp only [if_neg c1]; exact bad
theorem op_worth (hN : 5000 ≤ N) (h : Sys x m) (p1 p2 : Int32) : Ok (f_X4_worth N p1 p2 x) (f_X5_worth N p1 p2 m) := by
  have hh := h
  obtain ⟨a, hI, hS, hV, hR⟩ := h
  have hn := hI.1
  have bad : Ok (bd2 (f_X4_tell N (-1000000001) x) fun r d => some (r, d)) (bd2 (f_X5_finds N (-1000000001) m) fun r d => some (r, d)) := ok_tell hh _ 0 (by decide) (by decide)
  simp only [f_X4_worth, f_X5_worth, x_one hI hV, m_one hI hS, x_in, m_mark, some_bind', if10]
  by_cases c1 : isP (a_n a) p1
  · simp only [if_pos c1]
    by_cases c2 : 0 ≤ p2 ∧ p2 ≤ 8
    · simp only [if_pos c2]
      obtain ⟨i, hi, rfl⟩ := isP_nat hn c1
      obtain ⟨j, hj, rfl⟩ := in_nat (m := 8) (by decide) c2
      have b := (hI.2.2.2.2 i hi).2.2.2.2.2.2 j (by omega)
      have q := (hV.2.2.2.2.2.2 i hi).2.2.2.2.2
      obtain ⟨t, t1, t2, t3⟩ := x_try (N := N) hI hV
      obtain ⟨R, w1, w2⟩ := x_withWay (N := N) q (m := j) (x := (a_wy a i j + 1) % 4) (by omega) (by omega)
      have hI' : Inv (setw a i j ((a_wy a i j + 1) % 4)) := hI.wy (by omega)
      have hV' : VR (setw a i j ((a_wy a i j + 1) % 4)) (v_set_looks t (upd (v_looks t) i R)) := t2.wy w2
      have ch : v_children (v_set_looks t (upd (v_looks t) i R)) 12 = v_children (x_trial x) 12 := t3
      rw [rd_nI (by omega) (by decide), some_bind', t1, some_bind', lt_eq, x_wayIn q (by omega) b, some_bind', x_nextWay b, some_bind', w1, some_bind', ck_nI (by omega) (by decide), some_bind', lt_eq, nI_clamp (by omega), xt_get, xt_set, xt_val, xt_get]
      generalize v_set_looks t (upd (v_looks t) i R) = t' at hV' ch ⊢
      have e : (nI (a_wy a i j) + (1 : Int32)) - (nI (a_wy a i j) + (1 : Int32)) / (4 : Int32) * (4 : Int32) = nI ((a_wy a i j + 1) % 4) := by
        rw [nI_1, show (4 : Int32) = nI 4 from rfl, pk_rem (by omega) (by omega) (by omega)]
      obtain ⟨d1, p1, p2, p3, -⟩ := m_putw N hI hS hi (q := j) (by omega) ((a_wy a i j + 1) % 4)
      obtain ⟨d2, r1, r2, r3, -⟩ := m_putw N hI' p2 (i := i) hi (q := j) (by omega) (a_wy a i j)
      rw [setw_setw, setw_same] at r2
      rw [v_expected hN hI hV hi, some_bind', v_expected hN hI' hV' hi, some_bind', m_goodsTo hN hI hS hi, some_bind', m_wy hI hS hi (by omega), some_bind', e, p1, some_bind', m_goodsTo hN hI' p2 hi, some_bind', r1, some_bind']
      exact ok_go hR _ (KX.t x t' ch) (p3.tr r3) hI r2 hV
    · simp only [if_neg c2]; exact bad
  · simp only [if_neg c1]; exact bad
end OPS5
