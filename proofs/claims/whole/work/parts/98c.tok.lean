/-! ===== THE TEXT: tokens ===== -/
def skp (P : Nat → Bool) (e : Nat) : Nat → Nat
  | 0 => e
  | t + 1 => if P e then skp P (e + 1) t else e
theorem skp_le (P : Nat → Bool) : ∀ (t e : Nat), e ≤ skp P e t ∧ skp P e t ≤ e + t
  | 0, e => ⟨Nat.le_refl _, Nat.le_refl _⟩
  | t + 1, e => by
    rw [skp]
    split
    · have := skp_le P t (e + 1); omega
    · omega
theorem skp_all (P : Nat → Bool) : ∀ (t e i : Nat), e ≤ i → i < skp P e t → P i = true
  | 0, e, i, h1, h2 => by rw [skp] at h2; omega
  | t + 1, e, i, h1, h2 => by
    rw [skp] at h2
    by_cases c : P e = true
    · rw [if_pos c] at h2
      by_cases ci : i = e
      · rw [ci]; exact c
      · exact skp_all P t (e + 1) i (by omega) h2
    · rw [if_neg c] at h2; omega
def iL (c : Nat) : Bool := decide (97 ≤ c ∧ c ≤ 122)
def iD (c : Nat) : Bool := decide (48 ≤ c ∧ c ≤ 57)
def xf (b : Nat → Nat) (e : Nat) : Nat → Nat → Nat
  | 0, u => u
  | t + 1, u => if iD (b e) then xf b (e + 1) t (if u ≤ 99999999 then 10 * u + (b e - 48) else 1000000000) else u
def mf (b : Nat → Nat) (e : Nat) : Nat → Nat → Nat
  | 0, u => u
  | t + 1, u => if iD (b e) then mf b (e + 1) t (if u ≤ 199999999 then 10 * u + (b e - 48) else 2000000000) else u
def VN (u v : Nat) : Prop := (u = v ∧ v ≤ 999999999) ∨ (u = 1000000000 ∧ 1000000000 ≤ v ∧ v ≤ 2000000000)
theorem VN_fold (b : Nat → Nat) : ∀ (t e u v : Nat), VN u v → VN (xf b e t u) (mf b e t v)
  | 0, e, u, v, h => h
  | t + 1, e, u, v, h => by
    rw [xf, mf]
    by_cases c : iD (b e) = true
    · rw [if_pos c, if_pos c]
      have hb : 48 ≤ b e ∧ b e ≤ 57 := of_decide_eq_true c
      apply VN_fold
      unfold VN at h ⊢
      split <;> split <;> omega
    · rw [if_neg c, if_neg c]; exact h
def nf (b : Nat → Nat) (n e : Nat) : Nat := skp (fun i => decide (b i = 32)) e (n - e)
def nk (b : Nat → Nat) (n e : Nat) : Nat := if nf b n e = n then 0 else if iL (b (nf b n e)) then 1 else if iD (b (nf b n e)) then 2 else if b (nf b n e) = 59 then 3 else 4
def ne' (b : Nat → Nat) (n e : Nat) : Nat := if nk b n e = 0 then nf b n e else if nk b n e = 1 then skp (fun i => iL (b i)) (nf b n e) (n - nf b n e) else if nk b n e = 2 then skp (fun i => iD (b i)) (nf b n e) (n - nf b n e) else nf b n e + 1
def nu (b : Nat → Nat) (n e : Nat) : Nat := if nk b n e = 2 then xf b (nf b n e) (n - nf b n e) 0 else 0
def nv (b : Nat → Nat) (n e : Nat) : Nat := if nk b n e = 2 then mf b (nf b n e) (n - nf b n e) 0 else 0
/-- what holds of a token -/
def TF (b : Nat → Nat) (n k f e u v : Nat) : Prop := f ≤ e ∧ e ≤ n ∧ k ≤ 4 ∧ (k ≠ 0 → f < e) ∧ (k = 2 → ∀ i, f ≤ i → i < e → iD (b i) = true) ∧ VN u v
theorem nk_le (b : Nat → Nat) (n e : Nat) : nk b n e ≤ 4 := by
  unfold nk
  split
  · omega
  · split
    · omega
    · split
      · omega
      · split <;> omega
theorem nf_ok {b : Nat → Nat} {n e : Nat} (h : e ≤ n) : e ≤ nf b n e ∧ nf b n e ≤ n := by
  have := skp_le (fun i => decide (b i = 32)) (n - e) e
  unfold nf
  omega
theorem skp_first {P : Nat → Bool} {e t : Nat} (ht : 0 < t) (h : P e = true) : e < skp P e t := by
  obtain ⟨t', rfl⟩ : ∃ t', t = t' + 1 := ⟨t - 1, by omega⟩
  rw [skp, if_pos h]
  have := (skp_le P t' (e + 1)).1
  omega
theorem tok_ok {b : Nat → Nat} {n e : Nat} (h : e ≤ n) : TF b n (nk b n e) (nf b n e) (ne' b n e) (nu b n e) (nv b n e) := by
  obtain ⟨h1, h2⟩ := nf_ok (b := b) h
  have hvn : VN (nu b n e) (nv b n e) := by
    unfold nu nv
    split
    · exact VN_fold b _ _ 0 0 (Or.inl ⟨rfl, by omega⟩)
    · exact Or.inl ⟨rfl, by omega⟩
  have s1 := skp_le (fun i => iL (b i)) (n - nf b n e) (nf b n e)
  have s2 := skp_le (fun i => iD (b i)) (n - nf b n e) (nf b n e)
  have key : nf b n e ≤ ne' b n e ∧ ne' b n e ≤ n ∧ (nk b n e ≠ 0 → nf b n e < ne' b n e) ∧ (nk b n e = 2 → ∀ i, nf b n e ≤ i → i < ne' b n e → iD (b i) = true) := by
    unfold ne'
    by_cases k0 : nk b n e = 0
    · rw [if_pos k0]
      exact ⟨Nat.le_refl _, h2, fun z => absurd k0 z, fun z => by omega⟩
    · have hlt : nf b n e < n := by
        apply Classical.byContradiction
        intro z
        apply k0
        unfold nk
        rw [if_pos (by omega)]
      rw [if_neg k0]
      by_cases k1 : nk b n e = 1
      · have hl : iL (b (nf b n e)) = true := by
          unfold nk at k1
          rw [if_neg (by omega)] at k1
          apply Classical.byContradiction
          intro z
          rw [if_neg z] at k1
          split at k1
          · omega
          · split at k1 <;> omega
        rw [if_pos k1]
        have := skp_first (P := fun i => iL (b i)) (e := nf b n e) (t := n - nf b n e) (by omega) hl
        exact ⟨by omega, by omega, fun _ => this, fun z => by omega⟩
      · rw [if_neg k1]
        by_cases k2 : nk b n e = 2
        · have hl : iD (b (nf b n e)) = true := by
            unfold nk at k2
            rw [if_neg (by omega)] at k2
            apply Classical.byContradiction
            intro z
            split at k2
            · omega
            · split at k2 <;> omega
          rw [if_pos k2]
          have := skp_first (P := fun i => iD (b i)) (e := nf b n e) (t := n - nf b n e) (by omega) hl
          exact ⟨by omega, by omega, fun _ => this, fun _ i i1 i2 => skp_all (fun i => iD (b i)) _ _ i i1 i2⟩
        · rw [if_neg k2]
          exact ⟨by omega, by omega, fun _ => by omega, fun z => absurd z k2⟩
  exact ⟨key.1, key.2.1, nk_le b n e, key.2.2.1, key.2.2.2, hvn⟩
/-- the same tape on both sides -/
def BTx (b : Nat → Nat) (n : Nat) (T : TD) : Prop := n ≤ 120 ∧ t_length T = nI n ∧ ∀ i, i < n → b i < 256 ∧ t_bytes T i &&& 255 = nI (b i)
def BTm (b : Nat → Nat) (n : Nat) (d : MD) : Prop := n ≤ 120 ∧ m_taped d = nI n ∧ ∀ i, i < n → b i < 256 ∧ m_tape d i = nI (b i)
def bY (b : Nat → Nat) (n i : Nat) : Int32 := if i < n then nI (b i) else -1
section TOK
variable {N : Nat} {b : Nat → Nat} {n : Nat} {T : TD} {d : MD}
theorem x_byte (hT : BTx b n T) {i : Nat} (hi : i < 1000) : f_X1_byteAt N (nI i) T = some (bY b n i) := by
  obtain ⟨h1, h2, h3⟩ := hT
  unfold f_X1_byteAt bY
  rw [if_neg (nI_pos (by omega)), h2]
  by_cases c : i < n
  · rw [if_neg (nI_ge c (by omega)), rd_nI (by omega) (by decide), some_bind', (h3 i c).2, if_pos c]
  · rw [if_pos (nI_le (by omega) (by omega)), if_neg c]
theorem m_byte (hT : BTm b n d) {i : Nat} (hi : i < 1000) : f_X5_byteAt N (nI i) d = some (bY b n i) := by
  obtain ⟨h1, h2, h3⟩ := hT
  unfold f_X5_byteAt bY
  rw [h2]
  by_cases c : i < n
  · rw [if_neg (nI_ge c (by omega)), rd_nI (by omega) (by decide), some_bind', (h3 i c).2, if_pos c]
  · rw [if_pos (nI_le (by omega) (by omega)), if_neg c]
theorem x_letter {c : Nat} (hc : c < 256) : f_X2_isLetter N (nI c) = some (if iL c then 1 else 0) := by
  unfold f_X2_isLetter iL
  have e1 : (nI c < (97 : Int32)) = (c < 97) := nI_lt_iff (by omega) (by decide)
  have e2 : ((122 : Int32) < nI c) = (122 < c) := nI_lt_iff (by decide) (by omega)
  by_cases c1 : c < 97
  · rw [if_pos (by rw [e1]; exact c1), decide_eq_false (by omega)]; rfl
  · rw [if_neg (by rw [e1]; exact c1)]
    by_cases c2 : 122 < c
    · rw [if_pos (by rw [e2]; exact c2), decide_eq_false (by omega)]; rfl
    · rw [if_neg (by rw [e2]; exact c2), decide_eq_true (by omega)]; rfl
theorem x_digit {c : Nat} (hc : c < 256) : f_X2_isDigit N (nI c) = some (if iD c then 1 else 0) := by
  unfold f_X2_isDigit iD
  have e1 : (nI c < (48 : Int32)) = (c < 48) := nI_lt_iff (by omega) (by decide)
  have e2 : ((57 : Int32) < nI c) = (57 < c) := nI_lt_iff (by decide) (by omega)
  by_cases c1 : c < 48
  · rw [if_pos (by rw [e1]; exact c1), decide_eq_false (by omega)]; rfl
  · rw [if_neg (by rw [e1]; exact c1)]
    by_cases c2 : 57 < c
    · rw [if_pos (by rw [e2]; exact c2), decide_eq_false (by omega)]; rfl
    · rw [if_neg (by rw [e2]; exact c2), decide_eq_true (by omega)]; rfl
theorem m_letter (c : Int32) : f_X5_isLetter N c = f_X2_isLetter N c := rfl
theorem m_digit (c : Int32) : f_X5_isDigit N c = f_X2_isDigit N c := rfl
/-! the class's reader by its parts -/
theorem rt_end (T : TD) (p q r s f y : Int32) : r_set_end ((T, p, q, r, s, f) : RD) y = (T, p, q, y, s, f) := rfl
theorem rt_start (T : TD) (p q r s f y : Int32) : r_set_start ((T, p, q, r, s, f) : RD) y = (T, p, y, r, s, f) := rfl
theorem rt_token (T : TD) (p q r s f y : Int32) : r_set_token ((T, p, q, r, s, f) : RD) y = (T, y, q, r, s, f) := rfl
theorem rt_number (T : TD) (p q r s f y : Int32) : r_set_number ((T, p, q, r, s, f) : RD) y = (T, p, q, r, y, f) := rfl
theorem rt_faulty (T : TD) (p q r s f y : Int32) : r_set_isFaulty ((T, p, q, r, s, f) : RD) y = (T, p, q, r, s, y) := rfl
theorem rg_tape (T : TD) (p q r s f : Int32) : r_tape ((T, p, q, r, s, f) : RD) = T := rfl
theorem rg_token (T : TD) (p q r s f : Int32) : r_token ((T, p, q, r, s, f) : RD) = p := rfl
theorem rg_start (T : TD) (p q r s f : Int32) : r_start ((T, p, q, r, s, f) : RD) = q := rfl
theorem rg_end (T : TD) (p q r s f : Int32) : r_end ((T, p, q, r, s, f) : RD) = r := rfl
theorem rg_number (T : TD) (p q r s f : Int32) : r_number ((T, p, q, r, s, f) : RD) = s := rfl
theorem rg_faulty (T : TD) (p q r s f : Int32) : r_isFaulty ((T, p, q, r, s, f) : RD) = f := rfl
theorem x_let_L (hT : BTx b n T) {p q s f : Int32} : ∀ (t e g : Nat), e + t = n → t < g → f_X2_nextToken_L110 N g ((T, p, q, nI e, s, f) : RD) = some ((T, p, q, nI (skp (fun i => iL (b i)) e t), s, f) : RD) := by
  have h1 := hT.1
  intro t
  induction t with
  | zero =>
    intro e g e1 e2
    obtain ⟨g', rfl⟩ : ∃ g', g = g' + 1 := ⟨g - 1, by omega⟩
    rw [f_X2_nextToken_L110, rg_tape, rg_end, hT.2.1, if_pos (nI_le (by omega) (by omega)), skp]
  | succ t ih =>
    intro e g e1 e2
    obtain ⟨g', rfl⟩ : ∃ g', g = g' + 1 := ⟨g - 1, by omega⟩
    have be := hT.2.2 e (by omega)
    have hb : bY b n e = nI (b e) := if_pos (by omega)
    rw [f_X2_nextToken_L110, rg_tape, rg_end, hT.2.1, if_neg (nI_ge (by omega) (by omega)), x_byte hT (by omega), some_bind', hb, x_letter be.1, some_bind', if10, lt_eq, rt_end, nI_1, skp]
    cases c : iL (b e) with
    | true => rw [if_pos rfl, if_pos rfl]; exact ih (e + 1) g' (by omega) (by omega)
    | false => rw [if_neg (by decide), if_neg (by decide)]
theorem x_dig_L (hT : BTx b n T) {p q f : Int32} : ∀ (t e u g : Nat), e + t = n → t < g → u ≤ 1000000000 → f_X2_nextToken_L166 N g ((T, p, q, nI e, nI u, f) : RD) = some ((T, p, q, nI (skp (fun i => iD (b i)) e t), nI (xf b e t u), f) : RD) := by
  have h1 := hT.1
  intro t
  induction t with
  | zero =>
    intro e u g e1 e2 hu
    obtain ⟨g', rfl⟩ : ∃ g', g = g' + 1 := ⟨g - 1, by omega⟩
    rw [f_X2_nextToken_L166, rg_tape, rg_end, hT.2.1, if_pos (nI_le (by omega) (by omega)), skp, xf]
  | succ t ih =>
    intro e u g e1 e2 hu
    obtain ⟨g', rfl⟩ : ∃ g', g = g' + 1 := ⟨g - 1, by omega⟩
    have be := hT.2.2 e (by omega)
    have hb : bY b n e = nI (b e) := if_pos (by omega)
    rw [f_X2_nextToken_L166, rg_tape, rg_end, rg_number, hT.2.1, if_neg (nI_ge (by omega) (by omega)), x_byte hT (by omega), some_bind', some_bind', hb, x_digit be.1, some_bind', if10, skp, xf]
    cases c : iD (b e) with
    | true =>
      have hd : 48 ≤ b e ∧ b e ≤ 57 := of_decide_eq_true c
      rw [if_pos rfl, if_pos rfl, if_pos rfl]
      unfold f_X2_nextToken_J234
      simp only [lt_eq, rt_number, rt_end, rg_end, nI_1]
      by_cases cu : u ≤ 99999999
      · rw [if_pos (show nI u ≤ (99999999 : Int32) from nI_le cu (by decide)), if_pos cu, lit_nI 10, nI_muln, nI_addn, show (48 : Int32) = nI 48 from rfl, pk_sub (by omega), show 10 * u + b e - 48 = 10 * u + (b e - 48) by omega]
        exact ih (e + 1) _ g' (by omega) (by omega) (by omega)
      · rw [if_neg (show ¬ nI u ≤ (99999999 : Int32) from nI_ge (show 99999999 < u by omega) (by omega)), if_neg cu]
        exact ih (e + 1) 1000000000 g' (by omega) (by omega) (by omega)
    | false => rw [if_neg (by decide), if_neg (by decide), if_neg (by decide)]
/-- the class: a token, once the blanks are past -/
theorem x_tok (hN : 5000 ≤ N) (hT : BTx b n T) {p r s f : Int32} {e0 : Nat} (he0 : e0 ≤ n) : f_X2_nextToken_J51 N ((T, p, nI (nf b n e0), r, s, f) : RD) = some ((T, nI (nk b n e0), nI (nf b n e0), nI (ne' b n e0), nI (nu b n e0), f) : RD) := by
  have h1 := hT.1
  obtain ⟨n1, n2⟩ := nf_ok (b := b) he0
  unfold f_X2_nextToken_J51
  rw [lt_eq, rg_start, rt_end, lt_eq, rt_number, rg_start, rg_tape, x_byte hT (by omega), some_bind', hT.2.1]
  unfold ne' nu nk
  by_cases c0 : nf b n e0 = n
  · rw [if_neg (nI_nlt (by omega) (by omega)), if_pos c0, if_pos rfl, if_neg (by decide), lt_eq, rt_token]
    rfl
  · have hlt : nf b n e0 < n := by omega
    have be := hT.2.2 (nf b n e0) hlt
    have hb : bY b n (nf b n e0) = nI (b (nf b n e0)) := if_pos hlt
    rw [if_pos (nI_lt hlt (by omega)), hb, x_letter be.1, some_bind', if10, x_digit be.1, some_bind', if10, if_neg c0]
    cases cl : iL (b (nf b n e0)) with
    | true =>
      simp only [if_true]
      rw [lt_eq, rt_token, x_let_L hT (n - nf b n e0) (nf b n e0) N (by omega) (by omega)]
      rfl
    | false =>
      simp only [if_neg (show ¬ false = true by decide)]
      cases cd : iD (b (nf b n e0)) with
      | true =>
        simp only [if_true]
        have z := x_dig_L (N := N) hT (p := 2) (q := nI (nf b n e0)) (f := f) (n - nf b n e0) (nf b n e0) 0 N (by omega) (by omega) (by omega)
        have z : f_X2_nextToken_L166 N N ((T, 2, nI (nf b n e0), nI (nf b n e0), 0, f) : RD) = _ := z
        rw [lt_eq, rt_token, z]
        rfl
      | false =>
        simp only [if_neg (show ¬ false = true by decide)]
        unfold f_X2_nextToken_J262
        rw [lt_eq, rt_token, lt_eq, rg_end, rt_end, lt_eq, rt_token, lt_eq, rg_end, rt_end]
        by_cases c9 : b (nf b n e0) = 59
        · rw [if_pos (by rw [c9]; rfl), if_pos c9, nI_1]
          rfl
        · rw [if_neg (by rw [lit_nI 59, nI_eq_iff (by omega) (by decide)]; exact c9), if_neg c9, nI_1]
          rfl
theorem x_sp_L (hN : 5000 ≤ N) (hT : BTx b n T) {p r s f : Int32} {e0 : Nat} (he0 : e0 ≤ n) : ∀ (t e g : Nat), e + t = n → t < g → skp (fun i => decide (b i = 32)) e t = nf b n e0 → f_X2_nextToken_L8 N g ((T, p, nI e, r, s, f) : RD) = some ((T, nI (nk b n e0), nI (nf b n e0), nI (ne' b n e0), nI (nu b n e0), f) : RD) := by
  have h1 := hT.1
  intro t
  induction t with
  | zero =>
    intro e g e1 e2 hk
    obtain ⟨g', rfl⟩ : ∃ g', g = g' + 1 := ⟨g - 1, by omega⟩
    rw [skp] at hk
    rw [f_X2_nextToken_L8, rg_tape, rg_start, hT.2.1, if_pos (nI_le (by omega) (by omega)), hk]
    exact x_tok hN hT he0
  | succ t ih =>
    intro e g e1 e2 hk
    obtain ⟨g', rfl⟩ : ∃ g', g = g' + 1 := ⟨g - 1, by omega⟩
    have be := hT.2.2 e (by omega)
    have hb : bY b n e = nI (b e) := if_pos (by omega)
    rw [skp] at hk
    rw [f_X2_nextToken_L8, rg_tape, rg_start, hT.2.1, if_neg (nI_ge (by omega) (by omega)), x_byte hT (by omega), some_bind', hb, lt_eq, rt_start, nI_1]
    by_cases c : b e = 32
    · rw [if_pos (decide_eq_true c)] at hk
      rw [if_pos (by rw [c]; rfl)]
      exact ih (e + 1) g' (by omega) (by omega) hk
    · rw [if_neg (by rw [decide_eq_false c]; decide)] at hk
      rw [if_neg (by rw [lit_nI 32, nI_eq_iff (by omega) (by decide)]; exact c), hk]
      exact x_tok hN hT he0
theorem x_next (hN : 5000 ≤ N) (hT : BTx b n T) {p q s f : Int32} {e : Nat} (he : e ≤ n) : f_X2_nextToken N ((T, p, q, nI e, s, f) : RD) = some ((T, nI (nk b n e), nI (nf b n e), nI (ne' b n e), nI (nu b n e), f) : RD) := by
  have h1 := hT.1
  unfold f_X2_nextToken
  rw [lt_eq, rg_end, rt_start]
  exact x_sp_L hN hT he (n - e) e N (by omega) (by omega) rfl
end TOK
