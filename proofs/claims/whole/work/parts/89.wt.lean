/-! ===== THE CLASS: the sums of weights ===== -/
def msum (W : Nat → Nat) (K s : Nat) : Nat := sm (fun m => if s.testBit m then W m else 0) K
theorem sm_one (f g : Nat → Nat) (l : Nat) : ∀ n, l < n → (∀ m, m < n → m ≠ l → f m = g m) → g l = 0 → sm f n = sm g n + f l
  | 0, h, _, _ => absurd h (by omega)
  | n + 1, h, hm, h0 => by
    show sm f n + f n = sm g n + g n + f l
    by_cases c : l = n
    · subst c
      rw [sm_cong (n := l) (fun k hk => hm k (by omega) (by omega)), h0]
      rfl
    · have ih := sm_one f g l n (by omega) (fun m h1 h2 => hm m (by omega) h2) h0
      rw [ih, hm n (by omega) (by omega)]
      omega
theorem least32 : ∀ s, s < 32 → 0 < s → (fs (fun i => s.testBit i) 0 9 ≠ 0 ∧ fs (fun i => s.testBit i) 0 9 ≤ 5 ∧ s.testBit (fs (fun i => s.testBit i) 0 9 - 1) = true) ∧ (s &&& (s - 1)) < s ∧ (∀ m, m < 5 → (s &&& (s - 1)).testBit m = (s.testBit m && decide (m ≠ fs (fun i => s.testBit i) 0 9 - 1))) ∧ nI s &&& (nI s - 1) = nI (s &&& (s - 1)) := by decide +kernel
theorem least16 : ∀ s, s < 16 → 0 < s → fs (fun i => s.testBit i) 0 9 ≤ 4 := by decide +kernel
theorem msum_step (W : Nat → Nat) {K s : Nat} (hs : s < 32) (h0 : 0 < s) (hK : K ≤ 5) (hl : fs (fun i => s.testBit i) 0 9 ≤ K) : msum W K s = msum W K (s &&& (s - 1)) + W (fs (fun i => s.testBit i) 0 9 - 1) := by
  obtain ⟨⟨l1, l2, l3⟩, l4, l5, -⟩ := least32 s hs h0
  unfold msum
  rw [sm_one (fun m => if s.testBit m then W m else 0) (fun m => if (s &&& (s - 1)).testBit m then W m else 0) (fs (fun i => s.testBit i) 0 9 - 1) K (by omega) (fun m hm hne => by
    show (if s.testBit m then W m else 0) = (if (s &&& (s - 1)).testBit m then W m else 0)
    rw [l5 m (by omega), decide_eq_true hne, Bool.and_true]) (by
    show (if (s &&& (s - 1)).testBit (fs (fun i => s.testBit i) 0 9 - 1) then W (fs (fun i => s.testBit i) 0 9 - 1) else 0) = 0
    rw [l5 _ (by omega), decide_eq_false (fun z => z rfl), Bool.and_false]
    rfl)]
  congr 1
  show (if s.testBit (fs (fun i => s.testBit i) 0 9 - 1) then W (fs (fun i => s.testBit i) 0 9 - 1) else 0) = _
  rw [l3, if_pos rfl]
section WT
variable {N : Nat} {d : VD} {W : Nat → Nat} {na base K : Nat}
theorem v_sums_L (hN : 5000 ≤ N) (hna : na ≤ 32) (hK : K ≤ 5) (hb : base + K ≤ 9) (hl : ∀ s, s < na → 0 < s → fs (fun i => s.testBit i) 0 9 ≤ K) (hW : ∀ m, m < K → v_weights d (base + m) = nI (W m)) : ∀ (t k n : Nat) (g : Nat → Int32), k + t = na → 0 < k → t < n → (∀ j, j < k → g j = nI (msum W K j)) →
    ∃ g', f_X3_sumWeights_L2 N na d n (nI base) (nI k) g = some g' ∧ ∀ j, j < na → g' j = nI (msum W K j) := by
  intro t
  induction t with
  | zero =>
    intro k n g h1 h0 h2 hg
    obtain ⟨n', rfl⟩ : ∃ n', n = n' + 1 := ⟨n - 1, by omega⟩
    obtain rfl : k = na := by omega
    rw [f_X3_sumWeights_L2, if_pos (show Int32.ofNat k ≤ nI k from nI_le (Nat.le_refl _) (by omega))]
    exact ⟨g, rfl, hg⟩
  | succ t ih =>
    intro k n g h1 h0 h2 hg
    obtain ⟨n', rfl⟩ : ∃ n', n = n' + 1 := ⟨n - 1, by omega⟩
    have hl' := hl k (by omega) h0
    obtain ⟨⟨l1, l2, l3⟩, l4, l5, l6⟩ := least32 k (by omega) h0
    have e1 : fs (bt (nI k)) 0 9 = fs (fun i => k.testBit i) 0 9 := fs_cong 9 0 (fun m _ hm => b_nI k (by omega))
    have st := msum_step W (K := K) (s := k) (by omega) h0 hK hl'
    rw [f_X3_sumWeights_L2, if_neg (show ¬ Int32.ofNat na ≤ nI k from nI_ge (show k < na by omega) (by omega)), x_leastOf hN, some_bind', lt_eq, e1]
    generalize fs (fun i => k.testBit i) 0 9 = l at l1 l2 l3 hl' st e1 ⊢
    rw [enc_pos l1, nI_addn, l6, rd_nI (by omega) (by omega), some_bind', lit_nI 8, x_in1 N (by omega) (by decide), some_bind', if_neg (by decide), rd_nI (by omega) (by decide), some_bind', ck_nI (by omega) (by omega), some_bind', lt_eq, lt_eq, nI_1, nI_clamp (by omega), hW _ (by omega), hg _ l4, nI_addn, ← st]
    refine ih (k + 1) n' _ (by omega) (by omega) (by omega) (fun j hj => ?_)
    by_cases c : j = k
    · subst c; exact pk_us
    · rw [pk_un c]; exact hg j (by omega)
end WT
section WT2
variable {N : Nat} {v : VD} {a : AS}
theorem v_sums (hN : 5000 ≤ N) {d : VD} {f : Nat → Nat} (hW : ∀ m, m < 9 → v_weights d m = nI (f m)) {gl gu : Nat → Int32} (h0 : gl 0 = 0) (h0' : gu 0 = 0) :
    (∃ g, f_X3_sumWeights N 32 (0 : Int32) d gl = some g ∧ ∀ s, s < 32 → g s = nI (msum f 5 s)) ∧ ∃ g, f_X3_sumWeights N 16 (5 : Int32) d gu = some g ∧ ∀ s, s < 16 → g s = nI (msum (fun m => f (5 + m)) 4 s) := by
  constructor
  · obtain ⟨g, q1, q2⟩ := v_sums_L (N := N) (d := d) (W := f) (na := 32) (base := 0) (K := 5) hN (by omega) (by omega) (by omega) (fun s h1 h2 => (least32 s h1 h2).1.2.1) (fun m hm => by rw [Nat.zero_add]; exact hW m (by omega)) 31 1 N gl (by omega) (by omega) (by omega) (fun j hj => by
      obtain rfl : j = 0 := by omega
      rw [h0]; unfold msum; rw [show (fun m => if Nat.testBit 0 m then f m else 0) = fun _ => 0 by funext m; simp]; rfl)
    unfold f_X3_sumWeights
    exact ⟨g, q1, q2⟩
  · obtain ⟨g, q1, q2⟩ := v_sums_L (N := N) (d := d) (W := fun m => f (5 + m)) (na := 16) (base := 5) (K := 4) hN (by omega) (by omega) (by omega) (fun s h1 h2 => least16 s h1 h2) (fun m hm => hW (5 + m) (by omega)) 15 1 N gu (by omega) (by omega) (by omega) (fun j hj => by
      obtain rfl : j = 0 := by omega
      rw [h0']; unfold msum; rw [show (fun m => if Nat.testBit 0 m then f (5 + m) else 0) = fun _ => 0 by funext m; simp]; rfl)
    unfold f_X3_sumWeights
    exact ⟨g, q1, q2⟩
theorem x_exch (N : Nat) {na k : Nat} (hk : k < na) (hna : na < 100) (x : Int32) (f : Nat → Int32) : f_X4_exchange N na (nI k) x f = some (f k, upd f k x) := by
  unfold f_X4_exchange
  have e : (Int32.ofNat na - 1 : Int32) = nI (na - 1) := by
    show nI na - nI 1 = _
    exact pk_sub (by omega)
  rw [e, x_in1 N (by omega) (by omega), some_bind', if_neg (by decide), rd_nI hk (by omega), some_bind', ck_nI hk (by omega), some_bind', lt_eq, nI_clamp (by omega)]
theorem v_putWeight (hN : 5000 ≤ N) (hV : VR a v) {m : Nat} (hm : m < 9) (x : Nat) : ∃ v', f_X3_putWeight N (nI m) (nI x) v = some (nI (a_wt a m), v') ∧ VR (a_set_wt a (va_up (a_wt a) m x)) v' ∧ KE v v' := by
  obtain ⟨h1, h2, h3, h4, h5, ⟨h6, h6'⟩, h7⟩ := hV
  have hw : ∀ k, k < 9 → upd (v_weights v) m (nI x) k = nI (va_up (a_wt a) m x k) := fun k hk => by
    by_cases c : k = m
    · subst c; rw [va_up_s]; exact pk_us
    · rw [va_up_n _ x c]; exact (pk_un c).trans (h4 k hk).1
  have z0 : mlow a 0 = 0 := by unfold mlow; rw [show (fun m => if Nat.testBit 0 m then a_wt a m else 0) = fun _ => 0 by funext m; simp]; rfl
  have z0' : mupp a 0 = 0 := by unfold mupp; rw [show (fun m => if Nat.testBit 0 m then a_wt a (5 + m) else 0) = fun _ => 0 by funext m; simp]; rfl
  unfold f_X3_putWeight
  rw [x_exch N hm (by omega), bd2_some, lt_eq]
  obtain ⟨⟨g, q1, q2⟩, -⟩ := v_sums (N := N) hN (d := v_set_weights v (upd (v_weights v) m (nI x))) (f := va_up (a_wt a) m x) (gl := v_lowerSums v) (gu := fun _ => 0) hw (by rw [h6 0 (by omega), z0]; rfl) rfl
  have q1' : f_X3_sumWeights N 32 (0 : Int32) (v_set_weights v (upd (v_weights v) m (nI x))) (v_lowerSums (v_set_weights v (upd (v_weights v) m (nI x)))) = some g := q1
  rw [q1', some_bind', lt_eq]
  obtain ⟨-, ⟨g2, r1, r2⟩⟩ := v_sums (N := N) hN (d := v_set_lowerSums (v_set_weights v (upd (v_weights v) m (nI x))) g) (f := va_up (a_wt a) m x) (gl := fun _ => 0) (gu := v_upperSums v) hw rfl (by rw [h6' 0 (by omega), z0']; rfl)
  have r1' : f_X3_sumWeights N 16 (5 : Int32) (v_set_lowerSums (v_set_weights v (upd (v_weights v) m (nI x))) g) (v_upperSums (v_set_lowerSums (v_set_weights v (upd (v_weights v) m (nI x))) g)) = some g2 := r1
  rw [r1', some_bind', lt_eq, (h4 m hm).1]
  exact ⟨_, rfl, ⟨h1, h2, h3, fun k hk => ⟨hw k hk, (h4 k hk).2⟩, h5, ⟨q2, r2⟩, h7⟩, ⟨rfl, rfl, rfl⟩⟩
theorem v_weightOfAll (hV : VR a v) : f_X3_weightOfAll N v = some (nI (sm (a_wt a) 9)) := by
  obtain ⟨h1, h2, h3, h4, h5, ⟨h6, h6'⟩, h7⟩ := hV
  unfold f_X3_weightOfAll
  rw [rd_at (i := (31 : Int32)) 31 rfl (by decide) (by decide), some_bind', rd_at (i := (15 : Int32)) 15 rfl (by decide) (by decide), some_bind', h6 31 (by decide), h6' 15 (by decide), nI_addn]
  unfold mlow mupp
  rw [show (9 : Nat) = 5 + 4 from rfl, sm_split _ 5 4]
  congr 3
end WT2
