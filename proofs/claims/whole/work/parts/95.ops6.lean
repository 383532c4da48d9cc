/-! ===== OPERATIONS: fewest, best, kind, fair ===== -/
def cpf (a : AS) (one own s q : Nat) : Nat := if s.testBit q then a_wy a own q else a_wy a one q
def cph (a : AS) (one own s : Nat) : Bool := heir (wset a one (cpf a one own s)) own == one + 1
def fw (a : AS) (one own : Nat) : Nat → Nat
  | 0 => 10
  | s + 1 => if cph a one own s = true ∧ pcn s < fw a one own s then pcn s else fw a one own s
theorem pcn_le (s : Nat) : pcn s ≤ 12 := by
  have h := sm_le (f := fun i => if s.testBit i then 1 else 0) (c := 1) (n := 12) (fun k _ => by
    show (if s.testBit k then 1 else 0) ≤ 1
    split <;> omega)
  unfold pcn
  omega
theorem fw_le (a : AS) (one own : Nat) : ∀ s, fw a one own s ≤ 12
  | 0 => by rw [fw]; omega
  | s + 1 => by
    have := fw_le a one own s
    have := pcn_le s
    rw [fw]
    split <;> omega
theorem tb9 {s i : Nat} (hs : s < 512) (hi : 9 ≤ i) : s.testBit i = false := Nat.testBit_lt_two_pow (Nat.lt_of_lt_of_le hs (show 2 ^ 9 ≤ 2 ^ i from Nat.pow_le_pow_right (by decide) hi))
section FEW
variable {N : Nat} {a : AS} {x0 : XD} {m0 : MD} {one own : Nat}
theorem cpf_le (hI : Inv a) (h1 : one < a_n a) (h2 : own < a_n a) (s : Nat) : ∀ q, q < 9 → cpf a one own s q ≤ 3 := fun q hq => by
  unfold cpf
  split
  · exact (hI.2.2.2.2 own h2).2.2.2.2.2.2 q hq
  · exact (hI.2.2.2.2 one h1).2.2.2.2.2.2 q hq
theorem x_fewest_L (hN : 5000 ≤ N) (hI : Inv a) (hV : VR a (x_valley x0)) (h1 : one < a_n a) (h2 : own < a_n a) : ∀ (t s f : Nat) (d : XD), s + t = 512 → t < f → XT x0 a one d →
    ∃ d', f_X4_fewest_L51 N f (nI one) (nI own) (nI (fw a one own s)) (nI s) d = (if fw a one own 512 ≤ 9 then some (nI (fw a one own 512), d') else bd2 (f_X4_tell N (-1000000004) d') fun r d => some (r, d)) ∧ XT x0 a one d' := by
  have hn := hI.1
  intro t
  induction t with
  | zero =>
    intro s f d e1 e2 hX
    obtain ⟨f', rfl⟩ : ∃ f', f = f' + 1 := ⟨f - 1, by omega⟩
    obtain rfl : s = 512 := by omega
    have fl := fw_le a one own 512
    refine ⟨d, ?_, hX⟩
    rw [f_X4_fewest_L51, if_pos (show (511 : Int32) < nI 512 from nI_lt (show 511 < 512 by decide) (by decide))]
    by_cases c : fw a one own 512 ≤ 9
    · rw [if_pos (show nI (fw a one own 512) ≤ (9 : Int32) from nI_le c (by decide)), if_pos c]
    · rw [if_neg (show ¬ nI (fw a one own 512) ≤ (9 : Int32) from nI_ge (show 9 < fw a one own 512 by omega) (by omega)), if_neg c]
  | succ t ih =>
    intro s f d e1 e2 hX
    obtain ⟨f', rfl⟩ : ∃ f', f = f' + 1 := ⟨f - 1, by omega⟩
    have fl := fw_le a one own s
    have pl := pcn_le s
    have q1 := (hV.2.2.2.2.2.2 one h1).2.2.2.2.2
    have q2 := (hV.2.2.2.2.2.2 own h2).2.2.2.2.2
    obtain ⟨R, r1, r2⟩ := x_copied (N := N) (L := v_looks (x_valley x0) one) (M := v_looks (x_valley x0) own) (s := nI s) (S := fun i => s.testBit i) (v := a_wy a own) q1 (fun q hq _ => q2.1 q hq) (fun i hi => by
      rw [b_nI s hi]
      by_cases c : i < 9
      · rw [decide_eq_true c, Bool.true_and]
      · rw [decide_eq_false c, Bool.false_and, tb9 (by omega) (by omega)])
    have r2 : LK R (cpf a one own s) := r2
    obtain ⟨hX', hV'⟩ := hX.put r2
    have hI' : Inv (wset a one (cpf a one own s)) := wset_inv hI (cpf_le hI h1 h2 s)
    rw [f_X4_fewest_L51, if_neg (show ¬ (511 : Int32) < nI s from nI_nlt (show s ≤ 511 by omega) (by decide)), hX.1, rd_nI (by omega) (by decide), some_bind', rd_nI (by omega) (by decide), some_bind', r1, some_bind', ck_nI (by omega) (by decide), some_bind', lt_eq, nI_clamp (by omega)]
    generalize x_set_trial d (v_set_looks (x_trial d) (upd (v_looks (x_trial d)) one R)) = d2 at hX' hV' ⊢
    have hl := heir_le (wset a one (cpf a one own s)) own
    have hl2 : a_n (wset a one (cpf a one own s)) = a_n a := rfl
    have hh' : f_X3_heirFor N (nI own) (x_trial d2) = some (enc (heir (wset a one (cpf a one own s)) own)) := v_heir hN hI' hV' h2
    have bc : f_J6_bitCount_0f7a4 N (nI s) = some (nI (pcn s)) := bitc0 s (by omega)
    rw [hh', some_bind']
    have ih' := ih (s + 1) f' d2 (by omega) (by omega) hX'
    rw [fw] at ih'
    by_cases c : heir (wset a one (cpf a one own s)) own = one + 1
    · have cc : cph a one own s = true := by unfold cph; rw [c]; simp
      rw [if_pos (by rw [enc_eq (by omega) (by omega)]; exact c), bc, some_bind', lt_eq, lt_eq, nI_1]
      by_cases c2 : pcn s < fw a one own s
      · rw [if_pos ⟨cc, c2⟩] at ih'
        rw [if_pos (nI_lt c2 (by omega))]
        exact ih'
      · rw [if_neg (fun z => c2 z.2)] at ih'
        rw [if_neg (nI_nlt (by omega) (by omega))]
        exact ih'
    · have cc : ¬ cph a one own s = true := by unfold cph; simp [c]
      rw [if_neg (by rw [enc_eq (by omega) (by omega)]; exact c), lt_eq, nI_1]
      rw [if_neg (fun z => cc z.1)] at ih'
      exact ih'
def cpk (a : AS) (one own s k q : Nat) : Nat := if q < k then cpf a one own s q else a_wy a one q
theorem m_heirBy_L (hN : 5000 ≤ N) (hI : Inv a) (h1 : one < a_n a) (h2 : own < a_n a) (hne : own ≠ one) {s : Nat} (hs : s < 512) : ∀ (t k f : Nat) (d : MD), k + t = 9 → t < f → SR (wset a one (cpk a one own s k)) (m_s d) → SR a (m_close d) →
    ∃ d', f_X5_isHeirBy_L7 N f (nI one) (nI own) (nI s) (nI k) d = some (if cph a one own s then 1 else 0, d') ∧ SR a (m_s d') ∧ KR d d' := by
  have hn := hI.1
  intro t
  induction t with
  | zero =>
    intro k f d e1 e2 hS hC
    obtain ⟨f', rfl⟩ : ∃ f', f = f' + 1 := ⟨f - 1, by omega⟩
    obtain rfl : k = 9 := by omega
    have ef : cpk a one own s 9 = cpf a one own s := by
      funext q
      unfold cpk
      by_cases c : q < 9
      · rw [if_pos c]
      · rw [if_neg c]; unfold cpf; rw [tb9 hs (by omega)]; rfl
    rw [ef] at hS
    have hI' : Inv (wset a one (cpf a one own s)) := wset_inv hI (cpf_le hI h1 h2 s)
    have hl := heir_le (wset a one (cpf a one own s)) own
    have hl2 : a_n (wset a one (cpf a one own s)) = a_n a := rfl
    obtain ⟨d3, b1, b2, b3, -⟩ := m_unlay hN hI hC
    have hh' : f_X5_heirFor N (nI own) d = some (enc (heir (wset a one (cpf a one own s)) own)) := m_heir hN hI' hS h2
    refine ⟨d3, ?_, b2, b3⟩
    rw [f_X5_isHeirBy_L7, if_pos (show (9 : Int32) ≤ nI 9 from nI_le (Nat.le_refl 9) (by decide)), hh', some_bind', b1]
    by_cases c : heir (wset a one (cpf a one own s)) own = one + 1
    · have cc : cph a one own s = true := by unfold cph; rw [c]; simp
      rw [if_pos (by rw [enc_eq (by omega) (by omega)]; exact c), some_bind', if_pos cc]
    · have cc : ¬ cph a one own s = true := by unfold cph; simp [c]
      rw [if_neg (by rw [enc_eq (by omega) (by omega)]; exact c), some_bind', if_neg cc]
  | succ t ih =>
    intro k f d e1 e2 hS hC
    obtain ⟨f', rfl⟩ : ∃ f', f = f' + 1 := ⟨f - 1, by omega⟩
    have hIk : Inv (wset a one (cpk a one own s k)) := wset_inv hI (fun q hq => by
      unfold cpk
      split
      · exact cpf_le hI h1 h2 s q hq
      · exact (hI.2.2.2.2 one h1).2.2.2.2.2.2 q hq)
    rw [f_X5_isHeirBy_L7, if_neg (show ¬ (9 : Int32) ≤ nI k from nI_ge (show k < 9 by omega) (by decide)), b_sft _ k (by omega), b_nI s (by omega)]
    cases c : s.testBit k with
    | true =>
      have g := m_wy (N := N) hIk hS (k := own) (m := k) h2 (by omega)
      rw [wset_wyn a _ hne] at g
      obtain ⟨d1, p1, p2, p3, p4⟩ := m_putw N hIk hS (i := one) (q := k) h1 (by omega) (a_wy a own k)
      have ek : va_up (cpk a one own s k) k (a_wy a own k) = cpk a one own s (k + 1) := by
        funext q
        by_cases cq : q = k
        · rw [cq, va_up_s]; unfold cpk cpf; rw [if_pos (by omega), c, if_pos rfl]
        · rw [va_up_n _ _ cq]; unfold cpk
          by_cases cl : q < k
          · rw [if_pos cl, if_pos (by omega)]
          · rw [if_neg cl, if_neg (by omega)]
      rw [setw_wset, ek] at p2
      rw [if_pos (by rfl), g, some_bind', p1, some_bind', lt_eq, nI_1]
      obtain ⟨d', w1, w2, w3⟩ := ih (k + 1) f' d1 (by omega) (by omega) p2 (by rw [p4]; exact hC)
      exact ⟨d', w1, w2, p3.tr w3⟩
    | false =>
      have ek : cpk a one own s k = cpk a one own s (k + 1) := by
        funext q
        unfold cpk
        by_cases cq : q = k
        · rw [cq, if_neg (by omega), if_pos (by omega)]; unfold cpf; rw [c]; rfl
        · by_cases cl : q < k
          · rw [if_pos cl, if_pos (by omega)]
          · rw [if_neg cl, if_neg (by omega)]
      rw [ek] at hS
      rw [if_neg (by decide), lt_eq, nI_1]
      exact ih (k + 1) f' d (by omega) (by omega) hS hC
theorem m_heirBy (hN : 5000 ≤ N) (hI : Inv a) {d : MD} (hS : SR a (m_s d)) (h1 : one < a_n a) (h2 : own < a_n a) (hne : own ≠ one) {s : Nat} (hs : s < 512) : ∃ d', f_X5_isHeirBy N (nI one) (nI own) (nI s) d = some (if cph a one own s then 1 else 0, d') ∧ SR a (m_s d') ∧ KR d d' := by
  obtain ⟨d1, a1, a2, a3, a4, a5⟩ := m_lay hN hI hS
  have ek : cpk a one own s 0 = a_wy a one := by
    funext q
    unfold cpk
    rw [if_neg (by omega)]
  unfold f_X5_isHeirBy
  rw [a1, some_bind']
  obtain ⟨d', w1, w2, w3⟩ := m_heirBy_L hN hI h1 h2 hne hs 9 0 N d1 (by omega) (by omega) (by rw [ek, wset_id]; exact a2) a3
  exact ⟨d', w1, w2, a4.tr w3⟩
theorem m_fewest_L (hN : 5000 ≤ N) (hI : Inv a) (h1 : one < a_n a) (h2 : own < a_n a) (hne : own ≠ one) : ∀ (t s f : Nat) (d : MD), s + t = 512 → t < f → MT m0 a d →
    ∃ d', f_X5_fewest_L37 N f (nI one) (nI own) (nI (fw a one own s)) (nI s) d = (if fw a one own 512 ≤ 9 then some (nI (fw a one own 512), d') else bd2 (f_X5_finds N (-1000000004) d') fun r d => some (r, d)) ∧ MT m0 a d' := by
  have hn := hI.1
  intro t
  induction t with
  | zero =>
    intro s f d e1 e2 hX
    obtain ⟨f', rfl⟩ : ∃ f', f = f' + 1 := ⟨f - 1, by omega⟩
    obtain rfl : s = 512 := by omega
    have fl := fw_le a one own 512
    refine ⟨d, ?_, hX⟩
    rw [f_X5_fewest_L37, if_pos (show (512 : Int32) ≤ nI 512 from nI_le (Nat.le_refl 512) (by decide))]
    by_cases c : fw a one own 512 ≤ 9
    · rw [if_pos (show nI (fw a one own 512) ≤ (9 : Int32) from nI_le c (by decide)), if_pos c]
    · rw [if_neg (show ¬ nI (fw a one own 512) ≤ (9 : Int32) from nI_ge (show 9 < fw a one own 512 by omega) (by omega)), if_neg c]
  | succ t ih =>
    intro s f d e1 e2 hX
    obtain ⟨f', rfl⟩ : ∃ f', f = f' + 1 := ⟨f - 1, by omega⟩
    have fl := fw_le a one own s
    have pl := pcn_le s
    have mi := manyIn hN (n := s) (by omega)
    rw [f_X5_fewest_L37, if_neg (show ¬ (512 : Int32) ≤ nI s from nI_ge (show s < 512 by omega) (by decide)), mi, some_bind']
    by_cases c2 : pcn s < fw a one own s
    · obtain ⟨d1, w1, w2, w3⟩ := m_heirBy hN hI hX.1 h1 h2 hne (s := s) (by omega)
      have ih' := ih (s + 1) f' d1 (by omega) (by omega) ⟨w2, hX.2.tr w3⟩
      rw [fw] at ih'
      rw [if_neg (nI_ge c2 (by omega)), w1, bd2_some, if10]
      by_cases cc : cph a one own s = true
      · rw [if_pos ⟨cc, c2⟩] at ih'
        rw [if_pos cc, some_bind', lt_eq, nI_1]
        exact ih'
      · rw [if_neg (fun z => cc z.1)] at ih'
        rw [if_neg cc, lt_eq, nI_1]
        exact ih'
    · have ih' := ih (s + 1) f' d (by omega) (by omega) hX
      rw [fw, if_neg (fun z => c2 z.2)] at ih'
      rw [if_pos (nI_le (by omega) (by omega)), lt_eq, nI_1]
      exact ih'
end FEW
section OPS6
variable {N : Nat} {x : XD} {m : MD} {a : AS}
theorem op_fewest (hN : 5000 ≤ N) (h : Sys x m) (p1 p2 : Int32) : Ok (f_X4_fewest N p1 p2 x) (f_X5_fewest N p1 p2 m) := by
  have hh := h
  obtain ⟨a, hI, hS, hV, hR⟩ := h
  have hn := hI.1
  have bad : Ok (bd2 (f_X4_tell N (-1000000001) x) fun r d => some (r, d)) (bd2 (f_X5_finds N (-1000000001) m) fun r d => some (r, d)) := ok_tell hh _ 0 (by decide) (by decide)
  have late : Ok (bd2 (f_X4_tell N (-1000000005) x) fun r d => some (r, d)) (bd2 (f_X5_finds N (-1000000005) m) fun r d => some (r, d)) := ok_tell hh _ 4 (by decide) (by decide)
  simp only [f_X4_fewest, f_X5_fewest, x_two hI hV, m_two hI hS, some_bind', if10]
  by_cases c1 : are2 (a_n a) p1 p2
  · simp only [if_pos c1]
    obtain ⟨i, hi, rfl⟩ := isP_nat hn c1.1
    obtain ⟨j, hj, rfl⟩ := isP_nat hn c1.2.1
    have hne : j ≠ i := fun e => c1.2.2 (by rw [e])
    rw [v_lives hI hV hi, some_bind', if10, m_lives hI hS hi, some_bind', if10]
    by_cases c2 : a_lv a i = true
    · rw [if_pos c2, if_pos c2]
      obtain ⟨t, t1, t2, t3⟩ := x_try (N := N) hI hV
      obtain ⟨d1, q1, q2, q3, -⟩ := x_fewest_L (N := N) (x0 := x) hN hI hV (one := i) (own := j) hi hj 512 0 N (x_set_trial x t) (by omega) (by omega) ⟨rfl, KX.t _ _ t3, a_wy a i, by rw [wset_id]; exact t2⟩
      obtain ⟨d2, r1, r2, r3⟩ := m_fewest_L (N := N) (m0 := m) hN hI (one := i) (own := j) hi hj hne 512 0 N m (by omega) (by omega) ⟨hS, KR.rf m⟩
      have q1 : f_X4_fewest_L51 N N (nI i) (nI j) 10 0 (x_set_trial x t) = _ := q1
      have r1 : f_X5_fewest_L37 N N (nI i) (nI j) 10 0 m = _ := r1
      rw [t1, some_bind', lt_eq, q1, r1]
      by_cases c3 : fw a i j 512 ≤ 9
      · rw [if_pos c3, if_pos c3]
        exact ok_go hR _ q3 r3 hI r2 (by rw [q2]; exact hV)
      · rw [if_neg c3, if_neg c3]
        exact bad_go hR q3 r3 hI r2 (by rw [q2]; exact hV) _ 3 (by decide) (by decide)
    · rw [if_neg c2, if_neg c2]
      exact late
  · simp only [if_neg c1]; exact bad
end OPS6
def bgo (a : AS) (one j : Nat) : Nat := gsum (setw a one (j / 4) (j % 4)) (heirs (setw a one (j / 4) (j % 4)) one) (a_n a)
def bs (a : AS) (one : Nat) : Nat → Int32 × Int32
  | 0 => (0, -1)
  | j + 1 => if nI (bgo a one j) ≤ (bs a one j).2 then bs a one j else (nI (10 * (j / 4) + j % 4), nI (bgo a one j))
section BEST
variable {N : Nat} {a : AS} {x0 : XD} {m0 : MD} {one : Nat}
theorem x_best61 (hN : 5000 ≤ N) (hI : Inv a) (hV : VR a (x_valley x0)) (h1 : one < a_n a) {K : Int32 → Int32 → Int32 → Int32 → XD → Option (Int32 × XD)} {m : Nat} (hm : m < 9) {r : Int32}
    (hK : ∀ d, XT x0 a one d → ∃ d', K (nI one) (bs a one (4 * (m + 1))).1 (bs a one (4 * (m + 1))).2 (nI (m + 1)) d = some (r, d') ∧ XT x0 a one d') : ∀ (t w f : Nat) (d : XD), w + t = 4 → t < f → XT x0 a one d →
    ∃ d', f_X4_best_L61 N K f (nI one) (bs a one (4 * m + w)).1 (bs a one (4 * m + w)).2 (nI m) (nI w) d = some (r, d') ∧ XT x0 a one d' := by
  have hn := hI.1
  intro t
  induction t with
  | zero =>
    intro w f d e1 e2 hX
    obtain ⟨f', rfl⟩ : ∃ f', f = f' + 1 := ⟨f - 1, by omega⟩
    obtain rfl : w = 4 := by omega
    rw [f_X4_best_L61, if_pos (show (4 : Int32) ≤ nI 4 from nI_le (Nat.le_refl 4) (by decide)), lt_eq, nI_1]
    exact hK d hX
  | succ t ih =>
    intro w f d e1 e2 hX
    obtain ⟨f', rfl⟩ : ∃ f', f = f' + 1 := ⟨f - 1, by omega⟩
    have q := (hV.2.2.2.2.2.2 one h1).2.2.2.2.2
    obtain ⟨R, r1, r2⟩ := x_withWay (N := N) q (m := m) (x := w) hm (by omega)
    obtain ⟨hX', hV'⟩ := hX.put r2
    have hI' : Inv (setw a one m w) := hI.wy (by omega)
    rw [f_X4_best_L61, if_neg (show ¬ (4 : Int32) ≤ nI w from nI_ge (show w < 4 by omega) (by decide)), hX.1, rd_nI (by omega) (by decide), some_bind', r1, some_bind', ck_nI (by omega) (by decide), some_bind', lt_eq, nI_clamp (by omega)]
    generalize x_set_trial d (v_set_looks (x_trial d) (upd (v_looks (x_trial d)) one R)) = d2 at hX' hV' ⊢
    have ge : bgo a one (4 * m + w) = gsum (setw a one m w) (heirs (setw a one m w) one) (a_n a) := by
      unfold bgo
      rw [show (4 * m + w) / 4 = m by omega, show (4 * m + w) % 4 = w by omega]
    have hh' : f_X3_expectedBy N (nI one) (x_trial d2) = some (nI (bgo a one (4 * m + w))) := by
      rw [ge]
      exact v_expected hN hI' hV' h1
    rw [hh', some_bind']
    have ih' := ih (w + 1) f' d2 (by omega) (by omega) hX'
    rw [show 4 * m + (w + 1) = (4 * m + w) + 1 by omega, bs] at ih'
    by_cases c : nI (bgo a one (4 * m + w)) ≤ (bs a one (4 * m + w)).2
    · rw [if_pos c] at ih'
      rw [if_pos c, lt_eq, nI_1]
      exact ih'
    · rw [if_neg c, show (4 * m + w) / 4 = m by omega, show (4 * m + w) % 4 = w by omega] at ih'
      rw [if_neg c, lt_eq, lt_eq, nI_1, lit_nI 10, nI_muln, nI_addn]
      exact ih'
theorem x_best51 (hN : 5000 ≤ N) (hI : Inv a) (hV : VR a (x_valley x0)) (h1 : one < a_n a) : ∀ (t m f : Nat) (d : XD), m + t = 9 → t < f → XT x0 a one d →
    ∃ d', f_X4_best_L51 N f (nI one) (bs a one (4 * m)).1 (bs a one (4 * m)).2 (nI m) d = some ((bs a one 36).1, d') ∧ XT x0 a one d' := by
  intro t
  induction t with
  | zero =>
    intro m f d e1 e2 hX
    obtain ⟨f', rfl⟩ : ∃ f', f = f' + 1 := ⟨f - 1, by omega⟩
    obtain rfl : m = 9 := by omega
    rw [f_X4_best_L51, if_pos (show (9 : Int32) ≤ nI 9 from nI_le (Nat.le_refl 9) (by decide))]
    exact ⟨d, rfl, hX⟩
  | succ t ih =>
    intro m f d e1 e2 hX
    obtain ⟨f', rfl⟩ : ∃ f', f = f' + 1 := ⟨f - 1, by omega⟩
    rw [f_X4_best_L51, if_neg (show ¬ (9 : Int32) ≤ nI m from nI_ge (show m < 9 by omega) (by decide))]
    exact x_best61 hN hI hV h1 (K := f_X4_best_L51 N f') (m := m) (by omega) (fun d hd => ih (m + 1) f' d (by omega) (by omega) hd) 4 0 N d (by omega) (by omega) hX
theorem m_best59 (hN : 5000 ≤ N) (hI : Inv a) (h1 : one < a_n a) {K : Int32 → Int32 → Int32 → Int32 → MD → Option (Int32 × MD)} {m : Nat} (hm : m < 9) {r : Int32}
    (hK : ∀ d, MT m0 a d → ∃ d', K (nI one) (bs a one (4 * (m + 1))).1 (bs a one (4 * (m + 1))).2 (nI (m + 1)) d = some (r, d') ∧ MT m0 a d') : ∀ (t w f w' : Nat) (d : MD), w + t = 4 → t < f → w' ≤ 3 → MT m0 (setw a one m w') d →
    ∃ d', f_X5_best_L59 N K f (nI one) (bs a one (4 * m + w)).1 (bs a one (4 * m + w)).2 (nI m) (nI (a_wy a one m)) (nI w) d = some (r, d') ∧ MT m0 a d' := by
  have hn := hI.1
  intro t
  induction t with
  | zero =>
    intro w f w' d e1 e2 hw' hX
    obtain ⟨f', rfl⟩ : ∃ f', f = f' + 1 := ⟨f - 1, by omega⟩
    obtain rfl : w = 4 := by omega
    obtain ⟨d2, r1, r2, r3, -⟩ := m_putw N (hI.wy (i := one) (m := m) hw') hX.1 (i := one) h1 hm (a_wy a one m)
    rw [setw_setw, setw_same] at r2
    rw [f_X5_best_L59, if_pos (show (4 : Int32) ≤ nI 4 from nI_le (Nat.le_refl 4) (by decide)), r1, some_bind', lt_eq, nI_1]
    exact hK d2 ⟨r2, hX.2.tr r3⟩
  | succ t ih =>
    intro w f w' d e1 e2 hw' hX
    obtain ⟨f', rfl⟩ : ∃ f', f = f' + 1 := ⟨f - 1, by omega⟩
    obtain ⟨d2, r1, r2, r3, -⟩ := m_putw N (hI.wy (i := one) (m := m) hw') hX.1 (i := one) h1 hm w
    rw [setw_setw] at r2
    have hI' : Inv (setw a one m w) := hI.wy (by omega)
    have ge : bgo a one (4 * m + w) = gsum (setw a one m w) (heirs (setw a one m w) one) (a_n a) := by
      unfold bgo
      rw [show (4 * m + w) / 4 = m by omega, show (4 * m + w) % 4 = w by omega]
    have hh' : f_X5_goodsTo N (nI one) d2 = some (nI (bgo a one (4 * m + w))) := by
      rw [ge]
      exact m_goodsTo hN hI' r2 h1
    rw [f_X5_best_L59, if_neg (show ¬ (4 : Int32) ≤ nI w from nI_ge (show w < 4 by omega) (by decide)), r1, some_bind', hh', some_bind']
    unfold f_X5_best_J102
    have ih' := ih (w + 1) f' w d2 (by omega) (by omega) (by omega) ⟨r2, hX.2.tr r3⟩
    rw [show 4 * m + (w + 1) = (4 * m + w) + 1 by omega, bs] at ih'
    by_cases c : nI (bgo a one (4 * m + w)) ≤ (bs a one (4 * m + w)).2
    · rw [if_pos c] at ih'
      rw [if_pos c, if_pos c, lt_eq, nI_1]
      exact ih'
    · rw [if_neg c, show (4 * m + w) / 4 = m by omega, show (4 * m + w) % 4 = w by omega] at ih'
      rw [if_neg c, if_neg c, lt_eq, nI_1, lit_nI 10, nI_muln, nI_addn]
      exact ih'
theorem m_best37 (hN : 5000 ≤ N) (hI : Inv a) (h1 : one < a_n a) : ∀ (t m f : Nat) (d : MD), m + t = 9 → t < f → MT m0 a d →
    ∃ d', f_X5_best_L37 N f (nI one) (bs a one (4 * m)).1 (bs a one (4 * m)).2 (nI m) d = some ((bs a one 36).1, d') ∧ MT m0 a d' := by
  intro t
  induction t with
  | zero =>
    intro m f d e1 e2 hX
    obtain ⟨f', rfl⟩ : ∃ f', f = f' + 1 := ⟨f - 1, by omega⟩
    obtain rfl : m = 9 := by omega
    rw [f_X5_best_L37, if_pos (show (9 : Int32) ≤ nI 9 from nI_le (Nat.le_refl 9) (by decide))]
    exact ⟨d, rfl, hX⟩
  | succ t ih =>
    intro m f d e1 e2 hX
    obtain ⟨f', rfl⟩ : ∃ f', f = f' + 1 := ⟨f - 1, by omega⟩
    rw [f_X5_best_L37, if_neg (show ¬ (9 : Int32) ≤ nI m from nI_ge (show m < 9 by omega) (by decide)), m_wy hI hX.1 h1 (by omega), some_bind']
    exact m_best59 hN hI h1 (K := f_X5_best_L37 N f') (m := m) (by omega) (fun d hd => ih (m + 1) f' d (by omega) (by omega) hd) 4 0 N (a_wy a one m) d (by omega) (by omega) ((hI.2.2.2.2 one h1).2.2.2.2.2.2 m (by omega)) ⟨by rw [setw_same]; exact hX.1, hX.2⟩
end BEST
section OPS7
variable {N : Nat} {x : XD} {m : MD} {a : AS}
theorem op_best (hN : 5000 ≤ N) (h : Sys x m) (p1 : Int32) : Ok (f_X4_best N p1 x) (f_X5_best N p1 m) := by
  have hh := h
  obtain ⟨a, hI, hS, hV, hR⟩ := h
  have hn := hI.1
  have bad : Ok (bd2 (f_X4_tell N (-1000000001) x) fun r d => some (r, d)) (bd2 (f_X5_finds N (-1000000001) m) fun r d => some (r, d)) := ok_tell hh _ 0 (by decide) (by decide)
  have late : Ok (bd2 (f_X4_tell N (-1000000005) x) fun r d => some (r, d)) (bd2 (f_X5_finds N (-1000000005) m) fun r d => some (r, d)) := ok_tell hh _ 4 (by decide) (by decide)
  simp only [f_X4_best, f_X5_best, x_one hI hV, m_one hI hS, some_bind', if10]
  by_cases c1 : isP (a_n a) p1
  · simp only [if_pos c1]
    obtain ⟨i, hi, rfl⟩ := isP_nat hn c1
    rw [v_lives hI hV hi, some_bind', if10, m_lives hI hS hi, some_bind', if10]
    by_cases c2 : a_lv a i = true
    · rw [if_pos c2, if_pos c2]
      obtain ⟨t, t1, t2, t3⟩ := x_try (N := N) hI hV
      obtain ⟨d1, q1, q2, q3, -⟩ := x_best51 (N := N) (x0 := x) hN hI hV (one := i) hi 9 0 N (x_set_trial x t) (by omega) (by omega) ⟨rfl, KX.t _ _ t3, a_wy a i, by rw [wset_id]; exact t2⟩
      obtain ⟨d2, r1, r2, r3⟩ := m_best37 (N := N) (m0 := m) hN hI (one := i) hi 9 0 N m (by omega) (by omega) ⟨hS, KR.rf m⟩
      have q1 : f_X4_best_L51 N N (nI i) 0 (-1) 0 (x_set_trial x t) = _ := q1
      have r1 : f_X5_best_L37 N N (nI i) 0 (-1) 0 m = _ := r1
      rw [t1, some_bind', lt_eq, q1, r1]
      exact ok_go hR _ q3 r3 hI r2 (by rw [q2]; exact hV)
    · rw [if_neg c2, if_neg c2]
      exact late
  · simp only [if_neg c1]; exact bad
end OPS7
def akd (a : AS) (one k : Nat) : AS := a_set_kd a (va_up (a_kd a) one k)
def kb (a : AS) (one n : Nat) : Nat → Int32 × Int32
  | 0 => (0, -1)
  | k + 1 => if nI (a_gd (years (akd a one k) n) one) ≤ (kb a one n k).2 then kb a one n k else (nI k, nI (a_gd (years (akd a one k) n) one))
def rgo (b : AS) : Nat := if rb b 0 (a_n b) = 0 then 0 else a_gd b (rb b 0 (a_n b) - 1)
def lb (a : AS) (n : Nat) : Nat → Int32 × Int32
  | 0 => (0, 1000000)
  | k + 1 => if (lb a n k).2 ≤ nI (rgo (years (a_set_l a k) n)) then lb a n k else (nI k, nI (rgo (years (a_set_l a k) n)))
section KIND
variable {N : Nat} {a : AS} {x0 : XD} {m0 : MD} {one n : Nat}
def XU (x0 : XD) (d : XD) : Prop := x_valley d = x_valley x0 ∧ KX x0 d
def MU (m0 : MD) (a : AS) (d : MD) : Prop := SR a (m_s d) ∧ SR a (m_close d) ∧ KR m0 d
theorem x_kind_L (hN : 5000 ≤ N) (hI : Inv a) (hV : VR a (x_valley x0)) (h1 : one < a_n a) (hy : a_y a + n ≤ 9999) (h100 : n ≤ 100) : ∀ (t k f : Nat) (d : XD), k + t = 6 → t < f → XU x0 d →
    ∃ d', f_X4_kind_L48 N f (nI one) (nI n) (kb a one n k).1 (kb a one n k).2 (nI k) d = some ((kb a one n 6).1, d') ∧ XU x0 d' := by
  have hn := hI.1
  intro t
  induction t with
  | zero =>
    intro k f d e1 e2 hX
    obtain ⟨f', rfl⟩ : ∃ f', f = f' + 1 := ⟨f - 1, by omega⟩
    obtain rfl : k = 6 := by omega
    rw [f_X4_kind_L48, if_pos (show (5 : Int32) < nI 6 from nI_lt (show 5 < 6 by decide) (by decide))]
    exact ⟨d, rfl, hX⟩
  | succ t ih =>
    intro k f d e1 e2 hX
    obtain ⟨f', rfl⟩ : ∃ f', f = f' + 1 := ⟨f - 1, by omega⟩
    have hVd : VR a (x_valley d) := by rw [hX.1]; exact hV
    obtain ⟨u, t1, t2, t3⟩ := x_try (N := N) hI hVd
    have hI' : Inv (akd a one k) := hI.kd (by omega)
    have hV' : VR (akd a one k) (v_set_kinds u (upd (v_kinds u) one (nI k))) := t2.kd k
    have ch : v_children (v_set_kinds u (upd (v_kinds u) one (nI k))) 12 = v_children (x_trial d) 12 := t3
    rw [f_X4_kind_L48, if_neg (show ¬ (5 : Int32) < nI k from nI_nlt (show k ≤ 5 by omega) (by decide)), t1, some_bind', lt_eq, ck_nI (by omega) (by decide), some_bind', lt_eq, nI_clamp (by omega), xt_get, xt_set, xt_get]
    generalize v_set_kinds u (upd (v_kinds u) one (nI k)) = u2 at hV' ch ⊢
    obtain ⟨v', v1, v2, v3⟩ := v_years hN hI' hV' (n := n) hy h100
    obtain ⟨y1, y2, -⟩ := years_ok hI' n hy
    have y1 : a_n (years (akd a one k) n) = a_n a := y1
    rw [v1, bd2_some, lt_eq, xt_set, xt_get, rd_nI (by omega) (by decide), some_bind', some_bind', (v2.2.2.2.2.2.2 one (by omega)).2.2.1]
    have hX' : XU x0 (x_set_trial d v') := ⟨hX.1, hX.2.tr (KX.t _ _ ((congrFun v3.1 12).trans ch))⟩
    have ih' := ih (k + 1) f' (x_set_trial d v') (by omega) (by omega) hX'
    rw [kb] at ih'
    by_cases c : nI (a_gd (years (akd a one k) n) one) ≤ (kb a one n k).2
    · rw [if_pos c] at ih'
      rw [if_pos c, lt_eq, nI_1]
      exact ih'
    · rw [if_neg c] at ih'
      rw [if_neg c, lt_eq, nI_1]
      exact ih'
theorem m_kind_L (hN : 5000 ≤ N) (hI : Inv a) (hA : m_asked m0 = -1) (h1 : one < a_n a) (hy : a_y a + n ≤ 9999) (h100 : n ≤ 100) : ∀ (t k f : Nat) (d : MD), k + t = 6 → t < f → MU m0 a d →
    ∃ d', f_X5_kind_L54 N f (nI one) (nI n) (kb a one n k).1 (kb a one n k).2 (nI k) d = some ((kb a one n 6).1, d') ∧ MU m0 a d' := by
  have hn := hI.1
  intro t
  induction t with
  | zero =>
    intro k f d e1 e2 hX
    obtain ⟨f', rfl⟩ : ∃ f', f = f' + 1 := ⟨f - 1, by omega⟩
    obtain rfl : k = 6 := by omega
    rw [f_X5_kind_L54, if_pos (show (6 : Int32) ≤ nI 6 from nI_le (Nat.le_refl 6) (by decide))]
    exact ⟨d, rfl, hX⟩
  | succ t ih =>
    intro k f d e1 e2 hX
    obtain ⟨f', rfl⟩ : ∃ f', f = f' + 1 := ⟨f - 1, by omega⟩
    have hI' : Inv (akd a one k) := hI.kd (by omega)
    have p1 := m_puts N d (k := one) (w := 0) (by omega) (by omega) (nI k)
    have p1 : f_X5_puts N (nI one) 0 (nI k) d = some (m_set_s d (upd (m_s d) (21 + 15 * one) (nI k))) := p1
    have s1 : SR (akd a one k) (m_s (m_set_s d (upd (m_s d) (21 + 15 * one) (nI k)))) := hX.1.kd k h1
    have k1 := KR.s d (upd (m_s d) (21 + 15 * one) (nI k))
    have c1 : m_close (m_set_s d (upd (m_s d) (21 + 15 * one) (nI k))) = m_close d := rfl
    rw [f_X5_kind_L54, if_neg (show ¬ (6 : Int32) ≤ nI k from nI_ge (show k < 6 by omega) (by decide)), p1, some_bind']
    generalize m_set_s d (upd (m_s d) (21 + 15 * one) (nI k)) = d1 at s1 k1 c1 ⊢
    obtain ⟨d2, b1, b2, b3, b4⟩ := m_yrs hN hI' s1 ((hX.2.2.tr k1).2.2.2.2.2.2.2.2.trans hA) (n := n) hy h100
    obtain ⟨y1, y2, -⟩ := years_ok hI' n hy
    have y1 : a_n (years (akd a one k) n) = a_n a := y1
    obtain ⟨d3, u1, u2, u3, u4⟩ := m_unlay hN hI (m := d2) (by rw [b4, c1]; exact hX.2.1)
    rw [b1, bd2_some, m_gd y2 b2 (by omega), some_bind', u1, some_bind']
    unfold f_X5_kind_J101
    have ih' := ih (k + 1) f' d3 (by omega) (by omega) ⟨u2, by rw [u4, b4, c1]; exact hX.2.1, ((hX.2.2.tr k1).tr b3).tr u3⟩
    rw [kb] at ih'
    by_cases c : nI (a_gd (years (akd a one k) n) one) ≤ (kb a one n k).2
    · rw [if_pos c] at ih'
      rw [if_pos c, if_pos c, lt_eq, nI_1]
      exact ih'
    · rw [if_neg c] at ih'
      rw [if_neg c, if_neg c, lt_eq, nI_1]
      exact ih'
theorem x_fair_L (hN : 5000 ≤ N) (hI : Inv a) (hV : VR a (x_valley x0)) (hy : a_y a + n ≤ 9999) (h100 : n ≤ 100) : ∀ (t k f : Nat) (d : XD), k + t = 3 → t < f → XU x0 d →
    ∃ d', f_X4_fair_L40 N f (nI n) (lb a n k).1 (lb a n k).2 (nI k) d = some ((lb a n 3).1, d') ∧ XU x0 d' := by
  have hn := hI.1
  intro t
  induction t with
  | zero =>
    intro k f d e1 e2 hX
    obtain ⟨f', rfl⟩ : ∃ f', f = f' + 1 := ⟨f - 1, by omega⟩
    obtain rfl : k = 3 := by omega
    rw [f_X4_fair_L40, if_pos (show (2 : Int32) < nI 3 from nI_lt (show 2 < 3 by decide) (by decide))]
    exact ⟨d, rfl, hX⟩
  | succ t ih =>
    intro k f d e1 e2 hX
    obtain ⟨f', rfl⟩ : ∃ f', f = f' + 1 := ⟨f - 1, by omega⟩
    have hVd : VR a (x_valley d) := by rw [hX.1]; exact hV
    obtain ⟨u, t1, t2, t3⟩ := x_try (N := N) hI hVd
    have hI' : Inv (a_set_l a k) := hI.l (by omega)
    have hV' : VR (a_set_l a k) (v_set_law u (nI k)) := t2.l k
    have ch : v_children (v_set_law u (nI k)) 12 = v_children (x_trial d) 12 := t3
    rw [f_X4_fair_L40, if_neg (show ¬ (2 : Int32) < nI k from nI_nlt (show k ≤ 2 by omega) (by decide)), t1, some_bind', lt_eq, lt_eq, xt_get, xt_set, xt_get]
    generalize v_set_law u (nI k) = u2 at hV' ch ⊢
    obtain ⟨v', v1, v2, v3⟩ := v_years hN hI' hV' (n := n) hy h100
    obtain ⟨y1, y2, -⟩ := years_ok hI' n hy
    have y1 : a_n (years (a_set_l a k) n) = a_n a := y1
    have r1 : f_X3_richestBut N (-1) v' = some (enc (rb (years (a_set_l a k) n) 0 (a_n (years (a_set_l a k) n)))) := v_rich hN y2 v2 (i := 0) (by omega)
    have rl := rb_le (years (a_set_l a k) n) 0 (a_n (years (a_set_l a k) n))
    rw [v1, bd2_some, lt_eq, xt_set, xt_get, r1, some_bind']
    unfold f_X4_fair_J105
    have hX' : XU x0 (x_set_trial d v') := ⟨hX.1, hX.2.tr (KX.t _ _ ((congrFun v3.1 12).trans ch))⟩
    have ih' := ih (k + 1) f' (x_set_trial d v') (by omega) (by omega) hX'
    rw [lb] at ih'
    have fin : ∀ g : Int32, g = nI (rgo (years (a_set_l a k) n)) → ∃ d', (if (lb a n k).2 ≤ g then lt (nI k + 1) fun y => f_X4_fair_L40 N f' (nI n) (lb a n k).1 (lb a n k).2 y (x_set_trial d v') else lt (nI k + 1) fun y => f_X4_fair_L40 N f' (nI n) (nI k) g y (x_set_trial d v')) = some ((lb a n 3).1, d') ∧ XU x0 d' := by
      intro g hg
      subst hg
      by_cases c : (lb a n k).2 ≤ nI (rgo (years (a_set_l a k) n))
      · rw [if_pos c] at ih'
        rw [if_pos c, lt_eq, nI_1]
        exact ih'
      · rw [if_neg c] at ih'
        rw [if_neg c, lt_eq, nI_1]
        exact ih'
    by_cases c4 : rb (years (a_set_l a k) n) 0 (a_n (years (a_set_l a k) n)) = 0
    · rw [if_pos (by rw [enc_m1 (by omega)]; exact c4)]
      exact fin 0 (by unfold rgo; rw [if_pos c4]; rfl)
    · rw [if_neg (by rw [enc_m1 (by omega)]; exact c4), enc_pos c4, rd_nI (by omega) (by decide), some_bind', (v2.2.2.2.2.2.2 _ (by omega)).2.2.1]
      exact fin _ (by unfold rgo; rw [if_neg c4])
theorem m_fair_L (hN : 5000 ≤ N) (hI : Inv a) (hA : m_asked m0 = -1) (hy : a_y a + n ≤ 9999) (h100 : n ≤ 100) : ∀ (t k f : Nat) (d : MD), k + t = 3 → t < f → MU m0 a d →
    ∃ d', f_X5_fair_L46 N f (nI n) (lb a n k).1 (lb a n k).2 (nI k) d = some ((lb a n 3).1, d') ∧ MU m0 a d' := by
  have hn := hI.1
  intro t
  induction t with
  | zero =>
    intro k f d e1 e2 hX
    obtain ⟨f', rfl⟩ : ∃ f', f = f' + 1 := ⟨f - 1, by omega⟩
    obtain rfl : k = 3 := by omega
    rw [f_X5_fair_L46, if_pos (show (3 : Int32) ≤ nI 3 from nI_le (Nat.le_refl 3) (by decide))]
    exact ⟨d, rfl, hX⟩
  | succ t ih =>
    intro k f d e1 e2 hX
    obtain ⟨f', rfl⟩ : ∃ f', f = f' + 1 := ⟨f - 1, by omega⟩
    have hI' : Inv (a_set_l a k) := hI.l (by omega)
    have cl2 : ((2 : Int32)).toNatClampNeg = 2 := by decide
    have s1 : SR (a_set_l a k) (m_s (m_set_s d (upd (m_s d) 2 (nI k)))) := hX.1.l k
    have k1 := KR.s d (upd (m_s d) 2 (nI k))
    have c1 : m_close (m_set_s d (upd (m_s d) 2 (nI k))) = m_close d := rfl
    rw [f_X5_fair_L46, if_neg (show ¬ (3 : Int32) ≤ nI k from nI_ge (show k < 3 by omega) (by decide)), ck_at (i := (2 : Int32)) 2 rfl (by decide) (by decide), some_bind', lt_eq, cl2]
    generalize m_set_s d (upd (m_s d) 2 (nI k)) = d1 at s1 k1 c1 ⊢
    obtain ⟨d2, b1, b2, b3, b4⟩ := m_yrs hN hI' s1 ((hX.2.2.tr k1).2.2.2.2.2.2.2.2.trans hA) (n := n) hy h100
    obtain ⟨y1, y2, -⟩ := years_ok hI' n hy
    have y1 : a_n (years (a_set_l a k) n) = a_n a := y1
    have r1 : f_X5_richestBut N (-1) d2 = some (enc (rb (years (a_set_l a k) n) 0 (a_n (years (a_set_l a k) n)))) := m_rich hN y2 b2 (i := 0) (by omega)
    have rl := rb_le (years (a_set_l a k) n) 0 (a_n (years (a_set_l a k) n))
    obtain ⟨d3, u1, u2, u3, u4⟩ := m_unlay hN hI (m := d2) (by rw [b4, c1]; exact hX.2.1)
    rw [b1, bd2_some, r1, some_bind']
    unfold f_X5_fair_J90 f_X5_fair_J108
    rw [u1, some_bind']
    have ih' := ih (k + 1) f' d3 (by omega) (by omega) ⟨u2, by rw [u4, b4, c1]; exact hX.2.1, ((hX.2.2.tr k1).tr b3).tr u3⟩
    rw [lb] at ih'
    by_cases c4 : rb (years (a_set_l a k) n) 0 (a_n (years (a_set_l a k) n)) = 0
    · have eg : rgo (years (a_set_l a k) n) = 0 := by unfold rgo; rw [if_pos c4]
      rw [eg] at ih'
      rw [if_neg (by rw [enc_nn (by omega)]; exact fun z => z c4)]
      by_cases c : (lb a n k).2 ≤ nI 0
      · rw [if_pos c] at ih'
        rw [if_pos (show (lb a n k).2 ≤ 0 from c), if_pos (show (lb a n k).2 ≤ 0 from c), lt_eq, nI_1]
        exact ih'
      · rw [if_neg c] at ih'
        rw [if_neg (show ¬ (lb a n k).2 ≤ 0 from c), if_neg (show ¬ (lb a n k).2 ≤ 0 from c), lt_eq, nI_1]
        exact ih'
    · have eg : rgo (years (a_set_l a k) n) = a_gd (years (a_set_l a k) n) (rb (years (a_set_l a k) n) 0 (a_n (years (a_set_l a k) n)) - 1) := by unfold rgo; rw [if_neg c4]
      rw [if_pos (by rw [enc_nn (by omega)]; exact c4), enc_pos c4, m_gd y2 b2 (by omega), some_bind', some_bind', ← eg]
      by_cases c : (lb a n k).2 ≤ nI (rgo (years (a_set_l a k) n))
      · rw [if_pos c] at ih'
        rw [if_pos c, if_pos c, lt_eq, nI_1]
        exact ih'
      · rw [if_neg c] at ih'
        rw [if_neg c, if_neg c, lt_eq, nI_1]
        exact ih'
end KIND
section OPS8
variable {N : Nat} {x : XD} {m : MD} {a : AS}
theorem op_kind (hN : 5000 ≤ N) (h : Sys x m) (p1 p2 : Int32) : Ok (f_X4_kind N p1 p2 x) (f_X5_kind N p1 p2 m) := by
  have hh := h
  obtain ⟨a, hI, hS, hV, hR⟩ := h
  have hn := hI.1
  have bad : Ok (bd2 (f_X4_tell N (-1000000001) x) fun r d => some (r, d)) (bd2 (f_X5_finds N (-1000000001) m) fun r d => some (r, d)) := ok_tell hh _ 0 (by decide) (by decide)
  have late : Ok (bd2 (f_X4_tell N (-1000000005) x) fun r d => some (r, d)) (bd2 (f_X5_finds N (-1000000005) m) fun r d => some (r, d)) := ok_tell hh _ 4 (by decide) (by decide)
  simp only [f_X4_kind, f_X5_kind, x_one hI hV, m_one hI hS, x_in, mi_1_100, some_bind', if10]
  by_cases c1 : isP (a_n a) p1
  · simp only [if_pos c1]
    by_cases c2 : 1 ≤ p2 ∧ p2 ≤ 100
    · simp only [if_pos c2]
      obtain ⟨i, hi, rfl⟩ := isP_nat hn c1
      obtain ⟨n, hn', rfl⟩ := in_nat (m := 100) (by decide) ⟨by have := c2.1; rw [fa_le'] at this ⊢; exact Int.le_trans (by decide) this, c2.2⟩
      rw [x_late hI hV hn', some_bind', if01, m_far hI hS hn', some_bind', if01]
      by_cases c3 : a_y a + n ≤ 9999
      · rw [if_pos c3, if_pos c3]
        obtain ⟨d0, a1, a2, a3, a4, -⟩ := m_lay hN hI hS
        obtain ⟨d1, q1, q2, q3⟩ := x_kind_L (N := N) (x0 := x) hN hI hV hi c3 hn' 6 0 N x (by omega) (by omega) ⟨rfl, KX.rf x⟩
        obtain ⟨d2, r1, r2, r3, r4⟩ := m_kind_L (N := N) (m0 := m) hN hI hR.2.2.2.2.2 hi c3 hn' 6 0 N d0 (by omega) (by omega) ⟨a2, a3, a4⟩
        have q1 : f_X4_kind_L48 N N (nI i) (nI n) 0 (-1) 0 x = _ := q1
        have r1 : f_X5_kind_L54 N N (nI i) (nI n) 0 (-1) 0 d0 = _ := r1
        rw [q1, a1, some_bind', r1]
        exact ok_go hR _ q3 r4 hI r2 (by rw [q2]; exact hV)
      · rw [if_neg c3, if_neg c3]
        exact late
    · simp only [if_neg c2]; exact bad
  · simp only [if_neg c1]; exact bad
theorem op_fair (hN : 5000 ≤ N) (h : Sys x m) (p1 : Int32) : Ok (f_X4_fair N p1 x) (f_X5_fair N p1 m) := by
  have hh := h
  obtain ⟨a, hI, hS, hV, hR⟩ := h
  have hn := hI.1
  have bad : Ok (bd2 (f_X4_tell N (-1000000001) x) fun r d => some (r, d)) (bd2 (f_X5_finds N (-1000000001) m) fun r d => some (r, d)) := ok_tell hh _ 0 (by decide) (by decide)
  have late : Ok (bd2 (f_X4_tell N (-1000000005) x) fun r d => some (r, d)) (bd2 (f_X5_finds N (-1000000005) m) fun r d => some (r, d)) := ok_tell hh _ 4 (by decide) (by decide)
  simp only [f_X4_fair, f_X5_fair, x_in, mi_1_100, some_bind', if10]
  by_cases c2 : 1 ≤ p1 ∧ p1 ≤ 100
  · simp only [if_pos c2]
    obtain ⟨n, hn', rfl⟩ := in_nat (m := 100) (by decide) ⟨by have := c2.1; rw [fa_le'] at this ⊢; exact Int.le_trans (by decide) this, c2.2⟩
    rw [x_late hI hV hn', some_bind', if01, m_far hI hS hn', some_bind', if01]
    by_cases c3 : a_y a + n ≤ 9999
    · rw [if_pos c3, if_pos c3]
      obtain ⟨d0, a1, a2, a3, a4, -⟩ := m_lay hN hI hS
      obtain ⟨d1, q1, q2, q3⟩ := x_fair_L (N := N) (x0 := x) hN hI hV c3 hn' 3 0 N x (by omega) (by omega) ⟨rfl, KX.rf x⟩
      obtain ⟨d2, r1, r2, r3, r4⟩ := m_fair_L (N := N) (m0 := m) hN hI hR.2.2.2.2.2 c3 hn' 3 0 N d0 (by omega) (by omega) ⟨a2, a3, a4⟩
      have q1 : f_X4_fair_L40 N N (nI n) 0 1000000 0 x = _ := q1
      have r1 : f_X5_fair_L46 N N (nI n) 0 1000000 0 d0 = _ := r1
      rw [q1, a1, some_bind', r1]
      exact ok_go hR _ q3 r4 hI r2 (by rw [q2]; exact hV)
    · rw [if_neg c3, if_neg c3]
      exact late
  · simp only [if_neg c2]; exact bad
end OPS8
