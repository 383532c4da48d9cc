/-! ===== OPERATION: ways ===== -/
theorem sm_swap (f : Nat → Nat → Nat) (B : Nat) : ∀ A, sm (fun i => sm (fun j => f i j) B) A = sm (fun j => sm (fun i => f i j) A) B
  | 0 => (sm_zero (fun _ _ => rfl)).symm
  | A + 1 => by
    rw [sm, sm_swap f B A, ← sm_add]
    rfl
theorem sm_ind (F : Nat → Nat) (c : Nat) : ∀ n, sm (fun j => if j = c then F j else 0) n = if c < n then F c else 0
  | 0 => rfl
  | n + 1 => by
    rw [sm, sm_ind F c n]
    by_cases e : n = c
    · subst e
      rw [if_neg (by omega), if_pos rfl, if_pos (by omega), Nat.zero_add]
    · rw [if_neg e, Nat.add_zero]
      by_cases l : c < n
      · rw [if_pos l, if_pos (by omega)]
      · rw [if_neg l, if_neg (by omega)]
theorem sm_perm (F : Nat → Nat) (s t : Nat → Nat) (n : Nat) (h1 : ∀ i, i < n → s i < n ∧ t (s i) = i) (h2 : ∀ j, j < n → t j < n ∧ s (t j) = j) : sm (fun i => F (s i)) n = sm F n := by
  have a1 : sm (fun i => F (s i)) n = sm (fun i => sm (fun j => if j = s i then F j else 0) n) n := sm_cong (fun i hi => by rw [sm_ind F (s i) n, if_pos (h1 i hi).1])
  rw [a1, sm_swap]
  refine sm_cong (fun j hj => ?_)
  have a2 : sm (fun i => if j = s i then F j else 0) n = sm (fun i => if i = t j then F j else 0) n := sm_cong (fun i hi => by
    by_cases c : j = s i
    · rw [if_pos c, if_pos (by rw [c, (h1 i hi).2])]
    · rw [if_neg c, if_neg (fun e => c (by rw [e, (h2 j hj).2]))])
  rw [a2, sm_ind (fun _ => F j) (t j) n, if_pos (h2 j hj).1]
def plo (r : Nat) : Nat := sm (fun q => if r.testBit (2 * q) then 2 ^ q else 0) 6
def phi (r : Nat) : Nat := sm (fun q => if r.testBit (2 * q + 1) then 2 ^ q else 0) 6
def pst (r : Nat) : Nat := 64 * plo r + phi r
def pts (j : Nat) : Nat := sm (fun q => (if (j / 64).testBit q then 4 ^ q else 0) + (if (j % 64).testBit q then 2 * 4 ^ q else 0)) 6
def wvd (l h q : Nat) : Nat := (if l.testBit q then 1 else 0) + 2 * (if h.testBit q then 1 else 0)
theorem perm1 : ∀ u, u < 64 → ∀ v, v < 64 → pst (64 * u + v) < 4096 ∧ pts (pst (64 * u + v)) = 64 * u + v := by decide +kernel
theorem perm2 : ∀ u, u < 64 → ∀ v, v < 64 → pts (64 * u + v) < 4096 ∧ pst (pts (64 * u + v)) = 64 * u + v := by decide +kernel
theorem perm3 : ∀ u, u < 64 → ∀ v, v < 64 → ∀ q, q < 6 → (64 * u + v) / 2 ^ (2 * q) % 4 = wvd (pst (64 * u + v) / 64) (pst (64 * u + v) % 64) q := by decide +kernel
def wv (a : AS) (one l h q : Nat) : Nat := if q < 6 then wvd l h q else a_wy a one q
def mv (a : AS) (one r q : Nat) : Nat := if q < 6 then r / 2 ^ (2 * q) % 4 else a_wy a one q
def xh (a : AS) (one to j : Nat) : Nat := if heir (wset a one (wv a one (j / 64) (j % 64))) one = to + 1 then 1 else 0
def mh (a : AS) (one to r : Nat) : Nat := if heir (wset a one (mv a one r)) one = to + 1 then 1 else 0
theorem ways_eq (a : AS) (one to : Nat) : sm (mh a one to) 4096 = sm (xh a one to) 4096 := by
  have sp : ∀ r, r < 4096 → 64 * (r / 64) + r % 64 = r := fun r _ => by omega
  have h1 : ∀ i, i < 4096 → pst i < 4096 ∧ pts (pst i) = i := fun i hi => by
    have z := perm1 (i / 64) (by omega) (i % 64) (by omega)
    rw [sp i hi] at z
    exact z
  have h2 : ∀ i, i < 4096 → pts i < 4096 ∧ pst (pts i) = i := fun i hi => by
    have z := perm2 (i / 64) (by omega) (i % 64) (by omega)
    rw [sp i hi] at z
    exact z
  rw [← sm_perm (xh a one to) pst pts 4096 h1 h2]
  refine sm_cong (fun r hr => ?_)
  have e : mv a one r = wv a one (pst r / 64) (pst r % 64) := by
    funext q
    unfold mv wv
    by_cases c : q < 6
    · rw [if_pos c, if_pos c]
      have z := perm3 (r / 64) (by omega) (r % 64) (by omega) q c
      rw [sp r hr] at z
      exact z
    · rw [if_neg c, if_neg c]
  unfold mh xh
  rw [e]
theorem wvd_tb (l h q : Nat) : (wvd l h q).testBit 0 = l.testBit q ∧ (wvd l h q).testBit 1 = h.testBit q := by
  unfold wvd
  cases l.testBit q <;> cases h.testBit q <;> decide
theorem wvd_le (l h q : Nat) : wvd l h q ≤ 3 := by
  unfold wvd
  cases l.testBit q <;> cases h.testBit q <;> decide
theorem b_63 : ∀ i, i < 32 → bt 63 i = decide (i < 6) := by decide +kernel
theorem tb6 {s i : Nat} (hs : s < 64) (hi : 6 ≤ i) : s.testBit i = false := Nat.testBit_lt_two_pow (Nat.lt_of_lt_of_le hs (show 2 ^ 6 ≤ 2 ^ i from Nat.pow_le_pow_right (by decide) hi))
section WAYS
variable {N : Nat} {a : AS} {x0 : XD} {m0 : MD} {one to : Nat}
theorem wv_look {L : Int32} (hL : LK L (a_wy a one)) {R : Int32} (hR : f_X4_copied N L 0 63 = some R) {l h : Nat} (hl : l < 64) (hh : h < 64) : LK ((R ||| nI l) ||| (nI h <<< ((9 : Int32) &&& 31))) (wv a one l h) := by
  have eR : R = (L &&& (((63 : Int32) ||| ((63 : Int32) <<< ((9 : Int32) &&& 31))) ^^^ (-1))) ||| ((0 : Int32) &&& ((63 : Int32) ||| ((63 : Int32) <<< ((9 : Int32) &&& 31)))) := (Option.some.inj hR).symm
  have bR : ∀ i, i < 32 → bt R i = if (decide (i < 6) || (decide (9 ≤ i) && decide (i - 9 < 6))) then false else bt L i := fun i hi => by
    rw [eR, b_copied L 0 63 hi, b_63 i hi, b_63 (i - 9) (by omega), b_0]
  have bx : ∀ i, i < 32 → bt ((R ||| nI l) ||| (nI h <<< ((9 : Int32) &&& 31))) i = ((bt R i || l.testBit i) || (decide (9 ≤ i) && h.testBit (i - 9))) := fun i hi => by
    rw [b_or, b_or, b_shl9 _ hi, b_nI l hi, b_nI h (show i - 9 < 32 by omega)]
  refine ⟨fun q hq => ?_, fun i hi => ?_⟩
  · unfold wv
    obtain ⟨t0, t1⟩ := wvd_tb l h q
    by_cases c : q < 6
    · rw [if_pos c, t0, t1, bx q (by omega), bx (q + 9) (by omega), bR q (by omega), bR (q + 9) (by omega), tb6 hl (show 6 ≤ q + 9 by omega), Nat.add_sub_cancel]
      constructor
      · rw [decide_eq_true c, decide_eq_false (show ¬ 9 ≤ q by omega)]; simp
      · rw [decide_eq_true (show 9 ≤ q + 9 by omega), decide_eq_true c]; simp
    · rw [if_neg c, bx q (by omega), bx (q + 9) (by omega), bR q (by omega), bR (q + 9) (by omega), tb6 hl (show 6 ≤ q + 9 by omega), tb6 hl (show 6 ≤ q by omega), Nat.add_sub_cancel, tb6 hh (show 6 ≤ q by omega), (hL.1 q hq).1, (hL.1 q hq).2]
      constructor
      · rw [decide_eq_false c, decide_eq_false (show ¬ 9 ≤ q by omega)]; simp
      · rw [decide_eq_false (show ¬ q + 9 < 6 by omega), decide_eq_false c]; simp
  · rcases Nat.lt_or_ge i 32 with c | c
    · rw [bx i c, bR i c, tb6 hl (show 6 ≤ i by omega), tb6 hh (show 6 ≤ i - 9 by omega), hL.2 i hi]
      simp
    · exact b_big c
theorem wv_le (hI : Inv a) (h1 : one < a_n a) (l h : Nat) : ∀ q, q < 9 → wv a one l h q ≤ 3 := fun q hq => by
  unfold wv
  split
  · exact wvd_le l h q
  · exact (hI.2.2.2.2 one h1).2.2.2.2.2.2 q hq
theorem x_ways79 (hN : 5000 ≤ N) (hI : Inv a) (hV : VR a (x_valley x0)) (h1 : one < a_n a) (h2 : to < a_n a) {R : Int32} (hR : f_X4_copied N (v_looks (x_valley x0) one) 0 63 = some R) {K : Int32 → Int32 → Int32 → Int32 → Int32 → Int32 → XD → Option (Int32 × XD)} {l : Nat} (hl : l < 64) {r : Int32}
    (hK : ∀ d, XT x0 a one d → ∃ d', K (nI one) (nI to) 63 R (nI (sm (xh a one to) (64 * (l + 1)))) (nI (l + 1)) d = some (r, d') ∧ XT x0 a one d') : ∀ (t h f : Nat) (d : XD), h + t = 64 → t < f → XT x0 a one d →
    ∃ d', f_X4_ways_L79 N K f (nI one) (nI to) 63 R (nI (sm (xh a one to) (64 * l + h))) (nI l) (nI h) d = some (r, d') ∧ XT x0 a one d' := by
  have hn := hI.1
  intro t
  induction t with
  | zero =>
    intro h f d e1 e2 hX
    obtain ⟨f', rfl⟩ : ∃ f', f = f' + 1 := ⟨f - 1, by omega⟩
    obtain rfl : h = 64 := by omega
    rw [f_X4_ways_L79, if_pos (show (63 : Int32) < nI 64 from nI_lt (show 63 < 64 by decide) (by decide)), lt_eq, nI_1]
    exact hK d hX
  | succ t ih =>
    intro h f d e1 e2 hX
    obtain ⟨f', rfl⟩ : ∃ f', f = f' + 1 := ⟨f - 1, by omega⟩
    have q := (hV.2.2.2.2.2.2 one h1).2.2.2.2.2
    obtain ⟨hX', hV'⟩ := hX.put (wv_look (N := N) q hR hl (show h < 64 by omega))
    have hI' : Inv (wset a one (wv a one l h)) := wset_inv hI (wv_le hI h1 l h)
    rw [f_X4_ways_L79, if_neg (show ¬ (63 : Int32) < nI h from nI_nlt (show h ≤ 63 by omega) (by decide)), ck_nI (by omega) (by decide), some_bind', lt_eq, nI_clamp (by omega)]
    generalize x_set_trial d (v_set_looks (x_trial d) (upd (v_looks (x_trial d)) one ((R ||| nI l) ||| (nI h <<< ((9 : Int32) &&& 31))))) = d2 at hX' hV' ⊢
    have hl' := heir_le (wset a one (wv a one l h)) one
    have hl2 : a_n (wset a one (wv a one l h)) = a_n a := rfl
    have hh' : f_X3_heirFor N (nI one) (x_trial d2) = some (enc (heir (wset a one (wv a one l h)) one)) := v_heir hN hI' hV' h1
    have ge : xh a one to (64 * l + h) = if heir (wset a one (wv a one l h)) one = to + 1 then 1 else 0 := by
      unfold xh
      rw [show (64 * l + h) / 64 = l by omega, show (64 * l + h) % 64 = h by omega]
    have ih' := ih (h + 1) f' d2 (by omega) (by omega) hX'
    rw [show 64 * l + (h + 1) = (64 * l + h) + 1 by omega, sm, ge] at ih'
    rw [hh', some_bind']
    by_cases c : heir (wset a one (wv a one l h)) one = to + 1
    · rw [if_pos c] at ih'
      rw [if_pos (by rw [enc_eq (by omega) (by omega)]; exact c), lt_eq, lt_eq, nI_1, nI_1]
      exact ih'
    · rw [if_neg c, Nat.add_zero] at ih'
      rw [if_neg (by rw [enc_eq (by omega) (by omega)]; exact c), lt_eq, nI_1]
      exact ih'
theorem x_ways70 (hN : 5000 ≤ N) (hI : Inv a) (hV : VR a (x_valley x0)) (h1 : one < a_n a) (h2 : to < a_n a) {R : Int32} (hR : f_X4_copied N (v_looks (x_valley x0) one) 0 63 = some R) : ∀ (t l f : Nat) (d : XD), l + t = 64 → t < f → XT x0 a one d →
    ∃ d', f_X4_ways_L70 N f (nI one) (nI to) 63 R (nI (sm (xh a one to) (64 * l))) (nI l) d = some (nI (sm (xh a one to) 4096), d') ∧ XT x0 a one d' := by
  intro t
  induction t with
  | zero =>
    intro l f d e1 e2 hX
    obtain ⟨f', rfl⟩ : ∃ f', f = f' + 1 := ⟨f - 1, by omega⟩
    obtain rfl : l = 64 := by omega
    rw [f_X4_ways_L70, if_pos (show (63 : Int32) < nI 64 from nI_lt (show 63 < 64 by decide) (by decide))]
    exact ⟨d, rfl, hX⟩
  | succ t ih =>
    intro l f d e1 e2 hX
    obtain ⟨f', rfl⟩ : ∃ f', f = f' + 1 := ⟨f - 1, by omega⟩
    rw [f_X4_ways_L70, if_neg (show ¬ (63 : Int32) < nI l from nI_nlt (show l ≤ 63 by omega) (by decide))]
    exact x_ways79 hN hI hV h1 h2 hR (K := f_X4_ways_L70 N f') (l := l) (by omega) (fun d hd => ih (l + 1) f' d (by omega) (by omega) hd) 64 0 N d (by omega) (by omega) hX
/-- the reference's state among the ways -/
def MW (m0 : MD) (a : AS) (one : Nat) (w : Nat → Nat) (d : MD) : Prop := SR (wset a one w) (m_s d) ∧ SR a (m_close d) ∧ KR m0 d ∧ (∀ q, q < 9 → w q ≤ 3) ∧ ∀ q, 6 ≤ q → w q = a_wy a one q
theorem m_ways51 (hN : 5000 ≤ N) (hI : Inv a) (h1 : one < a_n a) (h2 : to < a_n a) {K : Int32 → Int32 → Int32 → Int32 → MD → Option (Int32 × MD)} {r : Nat} (hr : r < 4096) {res : Int32}
    (hK : ∀ d w, MW m0 a one w d → ∃ d', K (nI one) (nI to) (nI (sm (mh a one to) (r + 1))) (nI (r + 1)) d = some (res, d') ∧ SR a (m_s d') ∧ KR m0 d') : ∀ (t k f : Nat) (d : MD) (w : Nat → Nat), k + t = 6 → t < f → MW m0 a one w d → (∀ q, q < k → w q = r / 2 ^ (2 * q) % 4) →
    ∃ d', f_X5_ways_L51 N K f (nI one) (nI to) (nI (sm (mh a one to) r)) (nI r) (nI k) d = some (res, d') ∧ SR a (m_s d') ∧ KR m0 d' := by
  have hn := hI.1
  intro t
  induction t with
  | zero =>
    intro k f d w e1 e2 hX hw
    obtain ⟨f', rfl⟩ : ∃ f', f = f' + 1 := ⟨f - 1, by omega⟩
    obtain rfl : k = 6 := by omega
    have ew : w = mv a one r := by
      funext q
      unfold mv
      by_cases c : q < 6
      · rw [if_pos c]; exact hw q c
      · rw [if_neg c]; exact hX.2.2.2.2 q (by omega)
    have hI' : Inv (wset a one w) := wset_inv hI hX.2.2.2.1
    have hl' := heir_le (wset a one w) one
    have hl2 : a_n (wset a one w) = a_n a := rfl
    have hh' : f_X5_heirFor N (nI one) d = some (enc (heir (wset a one w) one)) := m_heir hN hI' hX.1 h1
    have ge : mh a one to r = if heir (wset a one w) one = to + 1 then 1 else 0 := by unfold mh; rw [ew]
    obtain ⟨d', k1, k2, k3⟩ := hK d w hX
    refine ⟨d', ?_, k2, k3⟩
    rw [sm, ge] at k1
    rw [f_X5_ways_L51, if_pos (show (6 : Int32) ≤ nI 6 from nI_le (Nat.le_refl 6) (by decide)), hh', some_bind']
    by_cases c : heir (wset a one w) one = to + 1
    · rw [if_pos c] at k1
      rw [if_pos (by rw [enc_eq (by omega) (by omega)]; exact c), lt_eq, lt_eq, nI_1, nI_1]
      exact k1
    · rw [if_neg c] at k1
      rw [if_neg (by rw [enc_eq (by omega) (by omega)]; exact c), lt_eq, lt_eq, nI_1, lit_nI 0, nI_addn]
      exact k1
  | succ t ih =>
    intro k f d w e1 e2 hX hw
    obtain ⟨f', rfl⟩ : ∃ f', f = f' + 1 := ⟨f - 1, by omega⟩
    have hI' : Inv (wset a one w) := wset_inv hI hX.2.2.2.1
    have ev : ((nI r >>> (((2 : Int32) * nI k) &&& 31)) &&& (3 : Int32)) = nI (r / 2 ^ (2 * k) % 4) := by
      rw [lit_nI 2, nI_muln, pk_shrN (by omega) _ (2 * k) (s_l (2 * k) (by omega))]
      have hlt : r / 2 ^ (2 * k) < 2 ^ 32 := Nat.lt_of_le_of_lt (Nat.div_le_self _ _) (by omega)
      exact pk_andN hlt 2 (by decide)
    obtain ⟨d1, p1, p2, p3, p4⟩ := m_putw N hI' hX.1 (i := one) (q := k) h1 (by omega) (r / 2 ^ (2 * k) % 4)
    rw [setw_wset] at p2
    rw [f_X5_ways_L51, if_neg (show ¬ (6 : Int32) ≤ nI k from nI_ge (show k < 6 by omega) (by decide)), ev, p1, some_bind', lt_eq, nI_1]
    refine ih (k + 1) f' d1 (va_up w k (r / 2 ^ (2 * k) % 4)) (by omega) (by omega) ⟨p2, by rw [p4]; exact hX.2.1, hX.2.2.1.tr p3, fun q hq => ?_, fun q hq => ?_⟩ (fun q hq => ?_)
    · by_cases c : q = k
      · rw [c, va_up_s]; omega
      · rw [va_up_n _ _ c]; exact hX.2.2.2.1 q hq
    · rw [va_up_n _ _ (by omega)]; exact hX.2.2.2.2 q hq
    · by_cases c : q = k
      · rw [c, va_up_s]
      · rw [va_up_n _ _ c]; exact hw q (by omega)
theorem m_ways40 (hN : 5000 ≤ N) (hI : Inv a) (h1 : one < a_n a) (h2 : to < a_n a) : ∀ (t r f : Nat) (d : MD) (w : Nat → Nat), r + t = 4096 → t < f → MW m0 a one w d →
    ∃ d', f_X5_ways_L40 N f (nI one) (nI to) (nI (sm (mh a one to) r)) (nI r) d = some (nI (sm (mh a one to) 4096), d') ∧ SR a (m_s d') ∧ KR m0 d' := by
  intro t
  induction t with
  | zero =>
    intro r f d w e1 e2 hX
    obtain ⟨f', rfl⟩ : ∃ f', f = f' + 1 := ⟨f - 1, by omega⟩
    obtain rfl : r = 4096 := by omega
    obtain ⟨d3, b1, b2, b3, -⟩ := m_unlay hN hI hX.2.1
    rw [f_X5_ways_L40, if_pos (show (4096 : Int32) ≤ nI 4096 from nI_le (Nat.le_refl 4096) (by decide)), b1, some_bind']
    exact ⟨d3, rfl, b2, hX.2.2.1.tr b3⟩
  | succ t ih =>
    intro r f d w e1 e2 hX
    obtain ⟨f', rfl⟩ : ∃ f', f = f' + 1 := ⟨f - 1, by omega⟩
    rw [f_X5_ways_L40, if_neg (show ¬ (4096 : Int32) ≤ nI r from nI_ge (show r < 4096 by omega) (by decide))]
    exact m_ways51 hN hI h1 h2 (K := f_X5_ways_L40 N f') (r := r) (by omega) (fun d w hd => ih (r + 1) f' d w (by omega) (by omega) hd) 6 0 N d w (by omega) (by omega) hX (fun q hq => absurd hq (by omega))
end WAYS
section OPS9
variable {N : Nat} {x : XD} {m : MD} {a : AS}
theorem op_ways (hN : 5000 ≤ N) (h : Sys x m) (p1 p2 : Int32) : Ok (f_X4_ways N p1 p2 x) (f_X5_ways N p1 p2 m) := by
  have hh := h
  obtain ⟨a, hI, hS, hV, hR⟩ := h
  have hn := hI.1
  have bad : Ok (bd2 (f_X4_tell N (-1000000001) x) fun r d => some (r, d)) (bd2 (f_X5_finds N (-1000000001) m) fun r d => some (r, d)) := ok_tell hh _ 0 (by decide) (by decide)
  have late : Ok (bd2 (f_X4_tell N (-1000000005) x) fun r d => some (r, d)) (bd2 (f_X5_finds N (-1000000005) m) fun r d => some (r, d)) := ok_tell hh _ 4 (by decide) (by decide)
  simp only [f_X4_ways, f_X5_ways, x_two hI hV, m_two hI hS, some_bind', if10]
  by_cases c1 : are2 (a_n a) p1 p2
  · simp only [if_pos c1]
    obtain ⟨i, hi, rfl⟩ := isP_nat hn c1.1
    obtain ⟨j, hj, rfl⟩ := isP_nat hn c1.2.1
    rw [v_lives hI hV hj, some_bind', if10, m_lives hI hS hj, some_bind', if10]
    by_cases c2 : a_lv a j = true
    · rw [if_pos c2, if_pos c2]
      obtain ⟨t, t1, t2, t3⟩ := x_try (N := N) hI hV
      obtain ⟨d0, a1, a2, a3, a4, -⟩ := m_lay hN hI hS
      obtain ⟨R, hRR⟩ : ∃ R, f_X4_copied N (v_looks (x_valley x) i) 0 63 = some R := ⟨_, rfl⟩
      obtain ⟨d1, q1, q2, q3, -⟩ := x_ways70 (N := N) (x0 := x) hN hI hV (one := i) (to := j) hi hj hRR 64 0 N (x_set_trial x t) (by omega) (by omega) ⟨rfl, KX.t _ _ t3, a_wy a i, by rw [wset_id]; exact t2⟩
      obtain ⟨d2, r1, r2, r3⟩ := m_ways40 (N := N) (m0 := m) hN hI (one := i) (to := j) hi hj 4096 0 N d0 (a_wy a i) (by omega) (by omega) ⟨by rw [wset_id]; exact a2, a3, a4, (hI.2.2.2.2 i hi).2.2.2.2.2.2, fun _ _ => rfl⟩
      have q1 : f_X4_ways_L70 N N (nI i) (nI j) 63 R 0 0 (x_set_trial x t) = _ := q1
      have r1 : f_X5_ways_L40 N N (nI i) (nI j) 0 0 d0 = _ := r1
      rw [t1, some_bind', lt_eq, xt_val, rd_nI (by omega) (by decide), some_bind', hRR, some_bind', q1, a1, some_bind', r1, ways_eq]
      exact ok_go hR _ q3 r3 hI r2 (by rw [q2]; exact hV)
    · rw [if_neg c2, if_neg c2]
      exact late
  · simp only [if_neg c1]; exact bad
end OPS9
