/-! ===== THE TEXT: the reference's tokens ===== -/
def KT (d d' : MD) : Prop := m_s d' = m_s d ∧ m_before d' = m_before d ∧ KR d d'
theorem KT.rf (d : MD) : KT d d := ⟨rfl, rfl, KR.rf d⟩
theorem KT.tr {d e f : MD} (h : KT d e) (k : KT e f) : KT d f := ⟨k.1.trans h.1, k.2.1.trans h.2.1, h.2.2.tr k.2.2⟩
theorem KT.fr (d : MD) (y) : KT d (m_set_from d y) := ⟨rfl, rfl, rfl, rfl, rfl, rfl, rfl, rfl, rfl, rfl, rfl⟩
theorem KT.to (d : MD) (y) : KT d (m_set_to d y) := ⟨rfl, rfl, rfl, rfl, rfl, rfl, rfl, rfl, rfl, rfl, rfl⟩
theorem KT.tk (d : MD) (y) : KT d (m_set_token d y) := ⟨rfl, rfl, rfl, rfl, rfl, rfl, rfl, rfl, rfl, rfl, rfl⟩
theorem KT.va (d : MD) (y) : KT d (m_set_value d y) := ⟨rfl, rfl, rfl, rfl, rfl, rfl, rfl, rfl, rfl, rfl, rfl⟩
theorem KT.fa (d : MD) (y) : KT d (m_set_faultAt d y) := ⟨rfl, rfl, rfl, rfl, rfl, rfl, rfl, rfl, rfl, rfl, rfl⟩
def MS (d : MD) (k f e v : Nat) : Prop := m_token d = nI k ∧ m_from d = nI f ∧ m_to d = nI e ∧ m_value d = nI v
theorem MS.to {d : MD} {k f e v : Nat} (h : MS d k f e v) (y : Nat) : MS (m_set_to d (nI y)) k f y v := ⟨h.1, h.2.1, rfl, h.2.2.2⟩
theorem MS.va {d : MD} {k f e v : Nat} (h : MS d k f e v) (y : Nat) : MS (m_set_value d (nI y)) k f e y := ⟨h.1, h.2.1, h.2.2.1, rfl⟩
section MTOK
variable {N : Nat} {b : Nat → Nat} {n : Nat}
theorem BTm.kt {d d' : MD} (h : BTm b n d) (k : KT d d') : BTm b n d' := by
  obtain ⟨h1, h2, h3⟩ := h
  obtain ⟨-, -, -, -, -, k4, k5, -⟩ := k
  refine ⟨h1, k5.trans h2, fun i hi => ⟨(h3 i hi).1, ?_⟩⟩
  rw [k4]
  exact (h3 i hi).2
theorem letter_m1 : f_X2_isLetter N (-1) = some 0 := rfl
theorem digit_m1 : f_X2_isDigit N (-1) = some 0 := rfl
theorem m_let_L : ∀ (t e g : Nat) (d : MD) {f v : Nat}, e + t = n → t < g → BTm b n d → MS d 1 f e v → ∃ d', f_X5_nextToken_L101 N g d = f_X5_nextToken_L136 N N d' ∧ KT d d' ∧ MS d' 1 f (skp (fun i => iL (b i)) e t) v := by
  intro t
  induction t with
  | zero =>
    intro e g d f v e1 e2 hT hM
    obtain ⟨g', rfl⟩ : ∃ g', g = g' + 1 := ⟨g - 1, by omega⟩
    have hb : bY b n e = -1 := if_neg (by omega)
    have h1 := hT.1
    refine ⟨d, ?_, KT.rf d, hM⟩
    rw [f_X5_nextToken_L101, hM.1, if_pos (show nI 1 = (1 : Int32) from rfl), hM.2.2.1, m_byte hT (by omega), some_bind', hb, m_letter, letter_m1, some_bind', if_pos rfl]
  | succ t ih =>
    intro e g d f v e1 e2 hT hM
    obtain ⟨g', rfl⟩ : ∃ g', g = g' + 1 := ⟨g - 1, by omega⟩
    have be := hT.2.2 e (by omega)
    have h1 := hT.1
    have hb : bY b n e = nI (b e) := if_pos (by omega)
    rw [f_X5_nextToken_L101, hM.1, if_pos (show nI 1 = (1 : Int32) from rfl), hM.2.2.1, m_byte hT (by omega), some_bind', hb, m_letter, x_letter be.1, some_bind', if10, lt_eq, nI_1, skp]
    cases c : iL (b e) with
    | true =>
      rw [if_pos rfl, if_pos rfl]
      obtain ⟨d', q1, q2, q3⟩ := ih (e + 1) g' (m_set_to d (nI (e + 1))) (by omega) (by omega) (hT.kt (KT.to _ _)) (hM.to (e + 1))
      exact ⟨d', q1, (KT.to _ _).tr q2, q3⟩
    | false =>
      rw [if_neg (by decide), if_neg (by decide)]
      exact ⟨d, rfl, KT.rf d, hM⟩
theorem m_dig_L : ∀ (t e g : Nat) (d : MD) {f v : Nat}, e + t = n → t < g → v ≤ 2000000000 → BTm b n d → MS d 2 f e v → ∃ d', f_X5_nextToken_L136 N g d = f_X5_nextToken_J208 N d' ∧ KT d d' ∧ MS d' 2 f (skp (fun i => iD (b i)) e t) (mf b e t v) := by
  intro t
  induction t with
  | zero =>
    intro e g d f v e1 e2 hv hT hM
    obtain ⟨g', rfl⟩ : ∃ g', g = g' + 1 := ⟨g - 1, by omega⟩
    have hb : bY b n e = -1 := if_neg (by omega)
    have h1 := hT.1
    refine ⟨d, ?_, KT.rf d, hM⟩
    rw [f_X5_nextToken_L136, hM.1, if_pos (show nI 2 = (2 : Int32) from rfl), hM.2.2.1, m_byte hT (by omega), some_bind', hb, m_digit, digit_m1, some_bind', if_pos rfl]
  | succ t ih =>
    intro e g d f v e1 e2 hv hT hM
    obtain ⟨g', rfl⟩ : ∃ g', g = g' + 1 := ⟨g - 1, by omega⟩
    have be := hT.2.2 e (by omega)
    have h1 := hT.1
    have hb : bY b n e = nI (b e) := if_pos (by omega)
    rw [f_X5_nextToken_L136, hM.1, if_pos (show nI 2 = (2 : Int32) from rfl), hM.2.2.1, m_byte hT (by omega), some_bind', some_bind', hb, m_digit, x_digit be.1, some_bind', if10, hM.2.2.2, skp, mf]
    cases c : iD (b e) with
    | true =>
      have hd : 48 ≤ b e ∧ b e ≤ 57 := of_decide_eq_true c
      rw [if_pos rfl, if_pos rfl, if_pos rfl]
      have step : ∀ w, w ≤ 2000000000 → ∃ d', f_X5_nextToken_J192 N (f_X5_nextToken_L136 N g') (nI w) d = f_X5_nextToken_J208 N d' ∧ KT d d' ∧ MS d' 2 f (skp (fun i => iD (b i)) (e + 1) t) (mf b (e + 1) t w) := by
        intro w hw
        unfold f_X5_nextToken_J192
        have z1 : m_to (m_set_value d (nI w)) = nI e := hM.2.2.1
        rw [lt_eq, lt_eq, z1, nI_1]
        have hM' := (hM.va w).to (e + 1)
        have hk : KT d (m_set_to (m_set_value d (nI w)) (nI (e + 1))) := (KT.va _ _).tr (KT.to _ _)
        generalize m_set_to (m_set_value d (nI w)) (nI (e + 1)) = d1 at hM' hk ⊢
        obtain ⟨d', q1, q2, q3⟩ := ih (e + 1) g' d1 (by omega) (by omega) hw (hT.kt hk) hM'
        exact ⟨d', q1, hk.tr q2, q3⟩
      by_cases cu : v ≤ 199999999
      · rw [if_pos (show nI v ≤ (199999999 : Int32) from nI_le cu (by decide)), if_pos cu, lit_nI 10, nI_muln, nI_addn, show (48 : Int32) = nI 48 from rfl, pk_sub (by omega), show 10 * v + b e - 48 = 10 * v + (b e - 48) by omega]
        exact step _ (by omega)
      · rw [if_neg (show ¬ nI v ≤ (199999999 : Int32) from nI_ge (show 199999999 < v by omega) (by omega)), if_neg cu]
        exact step 2000000000 (by omega)
    | false =>
      rw [if_neg (by decide), if_neg (by decide), if_neg (by decide)]
      exact ⟨d, rfl, KT.rf d, hM⟩
theorem m_208 {d : MD} {k f e v : Nat} (hk : k ≤ 4) (hM : MS d k f e v) : ∃ d', f_X5_nextToken_J208 N d = some d' ∧ KT d d' ∧ MS d' k f (if k ≤ 2 then e else e + 1) v := by
  unfold f_X5_nextToken_J208
  rw [hM.1, hM.2.2.1, lt_eq, lt_eq, nI_1, lit_nI 0, nI_addn]
  by_cases c : k ≤ 2
  · rw [if_pos (show nI k ≤ (2 : Int32) from nI_le c (by decide)), if_pos c]
    exact ⟨_, rfl, KT.to _ _, hM.to e⟩
  · rw [if_neg (show ¬ nI k ≤ (2 : Int32) from nI_ge (show 2 < k by omega) (by omega)), if_neg c]
    exact ⟨_, rfl, KT.to _ _, hM.to (e + 1)⟩
theorem m_101_skip {d : MD} {k f e v g : Nat} (hg : 0 < g) (hk : k ≤ 4) (h1 : k ≠ 1) (hM : MS d k f e v) : f_X5_nextToken_L101 N g d = f_X5_nextToken_L136 N N d := by
  obtain ⟨g', rfl⟩ : ∃ g', g = g' + 1 := ⟨g - 1, by omega⟩
  rw [f_X5_nextToken_L101, hM.1, if_neg (by rw [lit_nI 1, nI_eq_iff (by omega) (by decide)]; exact h1)]
theorem m_136_skip {d : MD} {k f e v g : Nat} (hg : 0 < g) (hk : k ≤ 4) (h1 : k ≠ 2) (hM : MS d k f e v) : f_X5_nextToken_L136 N g d = f_X5_nextToken_J208 N d := by
  obtain ⟨g', rfl⟩ : ∃ g', g = g' + 1 := ⟨g - 1, by omega⟩
  rw [f_X5_nextToken_L136, hM.1, if_neg (by rw [lit_nI 2, nI_eq_iff (by omega) (by decide)]; exact h1)]
/-- from the token's kind on -/
theorem m_101 (hN : 5000 ≤ N) {d : MD} {e0 : Nat} (he0 : e0 ≤ n) (hT : BTm b n d) (hM : MS d (nk b n e0) (nf b n e0) (nf b n e0) 0) : ∃ d', f_X5_nextToken_L101 N N d = some d' ∧ KT d d' ∧ MS d' (nk b n e0) (nf b n e0) (ne' b n e0) (nv b n e0) := by
  have h1 := hT.1
  obtain ⟨n1, n2⟩ := nf_ok (b := b) he0
  have hk := nk_le b n e0
  by_cases k1 : nk b n e0 = 1
  · rw [k1] at hM ⊢
    obtain ⟨d1, q1, q2, q3⟩ := m_let_L (N := N) (b := b) (n - nf b n e0) (nf b n e0) N d (by omega) (by omega) hT hM
    obtain ⟨d2, r1, r2, r3⟩ := m_208 (N := N) (by omega) q3
    rw [q1, m_136_skip (by omega) (by omega) (by omega) q3, r1]
    refine ⟨d2, rfl, q2.tr r2, ?_⟩
    rw [if_pos (by omega)] at r3
    have e1 : ne' b n e0 = skp (fun i => iL (b i)) (nf b n e0) (n - nf b n e0) := by unfold ne'; rw [k1]; rfl
    have e2 : nv b n e0 = 0 := by unfold nv; rw [k1]; rfl
    rw [e1, e2]
    exact r3
  · rw [m_101_skip (by omega) hk k1 hM]
    by_cases k2 : nk b n e0 = 2
    · rw [k2] at hM ⊢
      obtain ⟨d1, q1, q2, q3⟩ := m_dig_L (N := N) (b := b) (n - nf b n e0) (nf b n e0) N d (by omega) (by omega) (by omega) hT hM
      obtain ⟨d2, r1, r2, r3⟩ := m_208 (N := N) (by omega) q3
      rw [q1, r1]
      refine ⟨d2, rfl, q2.tr r2, ?_⟩
      rw [if_pos (by omega)] at r3
      have e1 : ne' b n e0 = skp (fun i => iD (b i)) (nf b n e0) (n - nf b n e0) := by unfold ne'; rw [k2]; rfl
      have e2 : nv b n e0 = mf b (nf b n e0) (n - nf b n e0) 0 := by unfold nv; rw [k2]; rfl
      rw [e1, e2]
      exact r3
    · obtain ⟨d2, r1, r2, r3⟩ := m_208 (N := N) hk hM
      rw [m_136_skip (by omega) hk k2 hM, r1]
      refine ⟨d2, rfl, r2, ?_⟩
      have e2 : nv b n e0 = 0 := by unfold nv; rw [if_neg k2]
      have e1 : ne' b n e0 = if nk b n e0 ≤ 2 then nf b n e0 else nf b n e0 + 1 := by
        unfold ne'
        by_cases k0 : nk b n e0 = 0
        · rw [if_pos k0, if_pos (by omega)]
        · rw [if_neg k0, if_neg k1, if_neg k2, if_neg (by omega)]
      rw [e1, e2]
      exact r3
theorem m_sp_L (hN : 5000 ≤ N) {e0 : Nat} (he0 : e0 ≤ n) : ∀ (t e g : Nat) (d : MD), e + t = n → t < g → BTm b n d → m_from d = nI e → skp (fun i => decide (b i = 32)) e t = nf b n e0 → ∃ d', f_X5_nextToken_L8 N g d = some d' ∧ KT d d' ∧ MS d' (nk b n e0) (nf b n e0) (ne' b n e0) (nv b n e0) := by
  obtain ⟨n1, n2⟩ := nf_ok (b := b) he0
  have tok : ∀ (d : MD), BTm b n d → m_from d = nI (nf b n e0) → ¬ bY b n (nf b n e0) = 32 → ∀ g, ∃ d', f_X5_nextToken_L8 N (g + 1) d = some d' ∧ KT d d' ∧ MS d' (nk b n e0) (nf b n e0) (ne' b n e0) (nv b n e0) := by
    intro d hT hf hns g
    have h1 := hT.1
    have fin : ∀ (y : Int32), y = nI (nk b n e0) → ∃ d', f_X5_nextToken_L101 N N (m_set_value (m_set_token (m_set_to d (nI (nf b n e0))) y) 0) = some d' ∧ KT d d' ∧ MS d' (nk b n e0) (nf b n e0) (ne' b n e0) (nv b n e0) := by
      intro y hy
      have kk : KT d (m_set_value (m_set_token (m_set_to d (nI (nf b n e0))) y) 0) := ((KT.to _ _).tr (KT.tk _ _)).tr (KT.va _ _)
      have hM : MS (m_set_value (m_set_token (m_set_to d (nI (nf b n e0))) y) 0) (nk b n e0) (nf b n e0) (nf b n e0) 0 := ⟨hy, hf, rfl, rfl⟩
      generalize m_set_value (m_set_token (m_set_to d (nI (nf b n e0))) y) 0 = d1 at kk hM ⊢
      obtain ⟨d', q1, q2, q3⟩ := m_101 hN he0 (hT.kt kk) hM
      exact ⟨d', q1, kk.tr q2, q3⟩
    have z1 : m_from (m_set_to d (nI (nf b n e0))) = nI (nf b n e0) := hf
    have hT2 : BTm b n (m_set_to d (nI (nf b n e0))) := hT.kt (KT.to _ _)
    rw [f_X5_nextToken_L8, hf, m_byte hT (by omega), some_bind', if_neg hns, lt_eq, z1, m_byte hT2 (by omega), some_bind']
    by_cases c0 : nf b n e0 = n
    · have hb : bY b n (nf b n e0) = -1 := if_neg (by omega)
      rw [hb, if_neg (by decide), lt_eq, lt_eq]
      exact fin 0 (by unfold nk; rw [if_pos c0]; rfl)
    · have hlt : nf b n e0 < n := by omega
      have be := hT.2.2 (nf b n e0) hlt
      have hb : bY b n (nf b n e0) = nI (b (nf b n e0)) := if_pos hlt
      rw [hb, if_pos (nI_pos' (by omega)), m_letter, x_letter be.1, some_bind', if10, m_digit, x_digit be.1, some_bind', if10]
      cases cl : iL (b (nf b n e0)) with
      | true =>
        rw [if_pos rfl, lt_eq, lt_eq]
        exact fin 1 (by unfold nk; rw [if_neg c0, cl]; rfl)
      | false =>
        rw [if_neg (show ¬ false = true by decide)]
        cases cd : iD (b (nf b n e0)) with
        | true =>
          rw [if_pos rfl, lt_eq, lt_eq]
          exact fin 2 (by unfold nk; rw [if_neg c0, cl, cd]; rfl)
        | false =>
          rw [if_neg (show ¬ false = true by decide)]
          by_cases c9 : b (nf b n e0) = 59
          · rw [if_pos (by rw [c9]; rfl), lt_eq, lt_eq]
            exact fin 3 (by unfold nk; rw [if_neg c0, cl, cd, if_pos c9]; rfl)
          · rw [if_neg (by rw [lit_nI 59, nI_eq_iff (by omega) (by decide)]; exact c9), lt_eq, lt_eq]
            exact fin 4 (by unfold nk; rw [if_neg c0, cl, cd, if_neg c9]; rfl)
  intro t
  induction t with
  | zero =>
    intro e g d e1 e2 hT hf hk
    obtain ⟨g', rfl⟩ : ∃ g', g = g' + 1 := ⟨g - 1, by omega⟩
    rw [skp] at hk
    rw [hk] at hf
    exact tok d hT hf (by unfold bY; rw [if_neg (by omega)]; decide) g'
  | succ t ih =>
    intro e g d e1 e2 hT hf hk
    obtain ⟨g', rfl⟩ : ∃ g', g = g' + 1 := ⟨g - 1, by omega⟩
    have be := hT.2.2 e (by omega)
    have h1 := hT.1
    have hb : bY b n e = nI (b e) := if_pos (by omega)
    rw [skp] at hk
    by_cases c : b e = 32
    · rw [if_pos (decide_eq_true c)] at hk
      rw [f_X5_nextToken_L8, hf, m_byte hT (by omega), some_bind', hb, if_pos (by rw [c]; rfl), lt_eq, nI_1]
      obtain ⟨d', q1, q2, q3⟩ := ih (e + 1) g' (m_set_from d (nI (e + 1))) (by omega) (by omega) (hT.kt (KT.fr _ _)) rfl hk
      exact ⟨d', q1, (KT.fr _ _).tr q2, q3⟩
    · rw [if_neg (by rw [decide_eq_false c]; decide)] at hk
      rw [hk] at hf hb c be
      exact tok d hT hf (by rw [hb, lit_nI 32, nI_eq_iff (by omega) (by decide)]; exact c) g'
theorem m_next (hN : 5000 ≤ N) {d : MD} {e : Nat} (he : e ≤ n) (hT : BTm b n d) (ht : m_to d = nI e) : ∃ d', f_X5_nextToken N d = some d' ∧ KT d d' ∧ MS d' (nk b n e) (nf b n e) (ne' b n e) (nv b n e) := by
  have h1 := hT.1
  unfold f_X5_nextToken
  rw [lt_eq, ht]
  obtain ⟨d', q1, q2, q3⟩ := m_sp_L hN he (n - e) e N (m_set_from d (nI e)) (by omega) (by omega) (hT.kt (KT.fr _ _)) rfl rfl
  exact ⟨d', q1, (KT.fr _ _).tr q2, q3⟩
end MTOK
/-! words -/
def chr (w i : Nat) : Nat := ((strByt.getD w []).getD i 0).toNatClampNeg
def wln (w : Nat) : Nat := strLen.getD w 0
theorem chr0 : ∀ w, w < 15 → ∀ i, i < 8 → i < wln w → f_J0_charAt_5068e 0 w (nI i) = some (nI (chr w i)) ∧ chr w i < 256 := by decide +kernel
theorem wln0 : ∀ w, w < 15 → wln w ≤ 7 ∧ f_J0_length_8abf5 0 w = some (nI (wln w)) := by decide +kernel
/-- the token is the word w -/
def WM (b : Nat → Nat) (k f e w : Nat) : Bool := decide (k = 1 ∧ e = f + wln w) && (List.range (wln w)).all (fun i => b (f + i) == chr w i)
section WORD
variable {N : Nat} {b : Nat → Nat} {n : Nat} {T : TD}
theorem x_word_L (hT : BTx b n T) {p s g : Int32} {f e w : Nat} (hw : w < 15) (he : f + wln w ≤ n) : ∀ (t i q : Nat), i + t = wln w → t < q → f_X2_isWord_L28 N w ((T, p, nI f, nI e, s, g) : RD) q (nI i) = some (if (List.range' i t).all (fun i => b (f + i) == chr w i) then 1 else 0) := by
  have h1 := hT.1
  have hl := wln0 w hw
  have el : f_J0_length_8abf5 N w = some (nI (wln w)) := hl.2
  intro t
  induction t with
  | zero =>
    intro i q e1 e2
    obtain ⟨q', rfl⟩ : ∃ q', q = q' + 1 := ⟨q - 1, by omega⟩
    rw [f_X2_isWord_L28, el, some_bind', if_pos (nI_le (by omega) (by omega))]
    rfl
  | succ t ih =>
    intro i q e1 e2
    obtain ⟨q', rfl⟩ : ∃ q', q = q' + 1 := ⟨q - 1, by omega⟩
    have hc := chr0 w hw i (by omega) (by omega)
    have ec : f_J0_charAt_5068e N w (nI i) = some (nI (chr w i)) := hc.1
    have be := hT.2.2 (f + i) (by omega)
    have hb : bY b n (f + i) = nI (b (f + i)) := if_pos (by omega)
    rw [f_X2_isWord_L28, el, some_bind', if_neg (nI_ge (by omega) (by omega)), rg_start, rg_tape, nI_addn, x_byte hT (by omega), some_bind', hb, ec, some_bind', List.range'_succ, List.all_cons, lt_eq, nI_1]
    by_cases c : b (f + i) = chr w i
    · rw [if_pos (by rw [c]), ih (i + 1) q' (by omega) (by omega), c, beq_self_eq_true, Bool.true_and]
    · rw [if_neg (by rw [nI_eq_iff (by omega) (by omega)]; exact c)]
      have c' : (b (f + i) == chr w i) = false := by simp [c]
      rw [c', Bool.false_and]
      rfl
theorem x_word (hN : 5000 ≤ N) (hT : BTx b n T) {s g : Int32} {k f e w : Nat} (hw : w < 15) (hk : k ≤ 4) (hfe : f ≤ e) (he : e ≤ n) : f_X2_isWord N w ((T, nI k, nI f, nI e, s, g) : RD) = some (if WM b k f e w then 1 else 0) := by
  have h1 := hT.1
  have hl := wln0 w hw
  have el : f_J0_length_8abf5 N w = some (nI (wln w)) := hl.2
  unfold f_X2_isWord WM
  rw [rg_token, rg_end, rg_start, el, some_bind', pk_sub hfe]
  by_cases c1 : k = 1
  · rw [if_pos (by rw [c1]; rfl)]
    by_cases c2 : e = f + wln w
    · have z := x_word_L (N := N) hT (p := nI k) (s := s) (g := g) (f := f) (e := e) (w := w) hw (by omega) (wln w) 0 N (by omega) (by omega)
      rw [if_pos (by rw [show e - f = wln w by omega]), decide_eq_true ⟨c1, c2⟩, Bool.true_and, List.range_eq_range']
      exact z
    · rw [if_neg (by rw [nI_eq_iff (by omega) (by omega)]; omega), decide_eq_false (fun z => c2 z.2), Bool.false_and]
      rfl
  · rw [if_neg (by rw [lit_nI 1, nI_eq_iff (by omega) (by decide)]; exact c1), decide_eq_false (fun z => c1 z.1), Bool.false_and]
    rfl
theorem m_isWord {d : MD} {k f e v L : Nat} (hM : MS d k f e v) (hk : k ≤ 4) (hfe : f ≤ e) (he : e ≤ 120) (hL : L ≤ 7) : f_X5_isWord N (nI L) d = some (if k = 1 ∧ e = f + L then 1 else 0) := by
  unfold f_X5_isWord
  rw [hM.1, hM.2.2.1, hM.2.1, pk_sub hfe]
  by_cases c1 : k = 1
  · rw [if_pos (by rw [c1]; rfl)]
    by_cases c2 : e = f + L
    · rw [if_pos (by rw [show e - f = L by omega]), if_pos ⟨c1, c2⟩]
    · rw [if_neg (by rw [nI_eq_iff (by omega) (by omega)]; omega), if_neg (fun z => c2 z.2)]
  · rw [if_neg (by rw [lit_nI 1, nI_eq_iff (by omega) (by decide)]; exact c1), if_neg (fun z => c1 z.1)]
theorem m_has3 {d : MD} (hT : BTm b n d) {k f e v i : Nat} (hM : MS d k f e v) (hi : f + i + 2 < n) {c1 c2 c3 : Nat} (h1 : c1 < 256) (h2 : c2 < 256) (h3 : c3 < 256) : f_X5_has3 N (nI i) (nI c1) (nI c2) (nI c3) d = some (if b (f + i) = c1 ∧ b (f + i + 1) = c2 ∧ b (f + i + 2) = c3 then 1 else 0) := by
  have hn := hT.1
  have b0 := (hT.2.2 (f + i) (by omega)).1
  have b1 := (hT.2.2 (f + i + 1) (by omega)).1
  have b2 := (hT.2.2 (f + i + 2) (by omega)).1
  have y0 : bY b n (f + i) = nI (b (f + i)) := if_pos (by omega)
  have y1 : bY b n (f + i + 1) = nI (b (f + i + 1)) := if_pos (by omega)
  have y2 : bY b n (f + i + 2) = nI (b (f + i + 2)) := if_pos (by omega)
  unfold f_X5_has3
  rw [hM.2.1, nI_addn, nI_1, show (2 : Int32) = nI 2 from rfl, nI_addn, m_byte hT (by omega), some_bind', m_byte hT (by omega), some_bind', m_byte hT (by omega), some_bind', y0, y1, y2]
  by_cases q1 : b (f + i) = c1
  · rw [if_pos (by rw [q1])]
    by_cases q2 : b (f + i + 1) = c2
    · rw [if_pos (by rw [q2])]
      by_cases q3 : b (f + i + 2) = c3
      · rw [if_pos (by rw [q3]), if_pos ⟨q1, q2, q3⟩]
      · rw [if_neg (by rw [nI_eq_iff (by omega) (by omega)]; exact q3), if_neg (fun z => q3 z.2.2)]
    · rw [if_neg (by rw [nI_eq_iff (by omega) (by omega)]; exact q2), if_neg (fun z => q2 z.2.1)]
  · rw [if_neg (by rw [nI_eq_iff (by omega) (by omega)]; exact q1), if_neg (fun z => q1 z.1)]
end WORD
