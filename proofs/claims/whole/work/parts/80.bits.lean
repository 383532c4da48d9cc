def bt (x : Int32) (i : Nat) : Bool := x.toBitVec.getLsbD i
theorem b_ext {x y : Int32} (h : ∀ i, i < 32 → bt x i = bt y i) : x = y := Int32.toBitVec_inj.mp (BitVec.eq_of_getLsbD_eq (fun i hi => h i hi))
theorem b_or (x y : Int32) (i : Nat) : bt (x ||| y) i = (bt x i || bt y i) := by unfold bt; rw [Int32.toBitVec_or, BitVec.getLsbD_or]
theorem b_and (x y : Int32) (i : Nat) : bt (x &&& y) i = (bt x i && bt y i) := by unfold bt; rw [Int32.toBitVec_and, BitVec.getLsbD_and]
theorem b_xor (x y : Int32) (i : Nat) : bt (x ^^^ y) i = (bt x i ^^ bt y i) := by unfold bt; rw [Int32.toBitVec_xor, BitVec.getLsbD_xor]
theorem b_big {x : Int32} {i : Nat} (h : 32 ≤ i) : bt x i = false := BitVec.getLsbD_of_ge _ _ h
theorem b_255 (i : Nat) : bt 255 i = decide (i < 8) := by
  rcases Nat.lt_or_ge i 32 with h | h
  · exact (by decide +kernel : ∀ i, i < 32 → bt 255 i = decide (i < 8)) i h
  · rw [b_big h, decide_eq_false (by omega)]
theorem b_65535 (i : Nat) : bt 65535 i = decide (i < 16) := by
  rcases Nat.lt_or_ge i 32 with h | h
  · exact (by decide +kernel : ∀ i, i < 32 → bt 65535 i = decide (i < 16)) i h
  · rw [b_big h, decide_eq_false (by omega)]
theorem b_m1 : ∀ i, i < 32 → bt (-1) i = true := by decide +kernel
theorem b_0 (i : Nat) : bt 0 i = false := BitVec.getLsbD_zero
theorem s_l : ∀ n, n < 32 → ((nI n &&& 31).toBitVec.smod 32).toNat = n := by decide +kernel
theorem s_u : ∀ n, n < 32 → (((nI n).toUInt32 &&& Int32.toUInt32 31).toBitVec % 32).toNat = n := by decide +kernel
theorem b_shl (n : Nat) (hn : n < 32) (x : Int32) {i : Nat} (hi : i < 32) : bt (x <<< (nI n &&& 31)) i = (decide (n ≤ i) && bt x (i - n)) := by
  unfold bt
  rw [Int32.toBitVec_shiftLeft]
  show (x.toBitVec <<< ((nI n &&& 31).toBitVec.smod 32).toNat).getLsbD i = _
  rw [s_l n hn, BitVec.getLsbD_shiftLeft]
  rcases Nat.lt_or_ge i n with h | h
  · simp [h, Nat.not_le.mpr h]
  · simp [hi, h, Nat.not_lt.mpr h]
theorem b_ushr (n : Nat) (hn : n < 32) (x : Int32) (i : Nat) : bt ((x.toUInt32 >>> ((nI n).toUInt32 &&& Int32.toUInt32 31)).toInt32) i = bt x (n + i) := by
  show (x.toUInt32 >>> ((nI n).toUInt32 &&& Int32.toUInt32 31)).toBitVec.getLsbD i = x.toUInt32.toBitVec.getLsbD (n + i)
  rw [UInt32.toBitVec_shiftRight]
  show (x.toUInt32.toBitVec >>> (((nI n).toUInt32 &&& Int32.toUInt32 31).toBitVec % 32).toNat).getLsbD i = _
  rw [s_u n hn, BitVec.getLsbD_ushiftRight]
theorem b_sshr (n : Nat) (hn : n < 32) (x : Int32) {i : Nat} (hi : i < 32) : bt (x >>> (nI n &&& 31)) i = if n + i < 32 then bt x (n + i) else bt x 31 := by
  unfold bt
  rw [Int32.toBitVec_shiftRight]
  show (x.toBitVec.sshiftRight ((nI n &&& 31).toBitVec.smod 32).toNat).getLsbD i = _
  rw [s_l n hn, BitVec.getLsbD_sshiftRight, BitVec.msb_eq_getLsbD_last]
  simp [hi]
theorem b_shl9 (x : Int32) {i : Nat} (hi : i < 32) : bt (x <<< ((9 : Int32) &&& 31)) i = (decide (9 ≤ i) && bt x (i - 9)) := b_shl 9 (by omega) x hi
theorem b_sshr9 (x : Int32) {i : Nat} (hi : i < 32) : bt (x >>> ((9 : Int32) &&& 31)) i = if 9 + i < 32 then bt x (9 + i) else bt x 31 := b_sshr 9 (by omega) x hi
/-! one bit -/
theorem b_1 : ∀ i, i < 32 → bt 1 i = decide (i = 0) := by decide +kernel
theorem b_511 : ∀ i, i < 32 → bt 511 i = decide (i < 9) := by decide +kernel
theorem b_256 : ∀ i, i < 32 → bt 256 i = decide (i = 8) := by decide +kernel
theorem b_m257 : ∀ i, i < 32 → bt (-257) i = decide (i ≠ 8) := by decide +kernel
theorem b_sft (x : Int32) (m : Nat) (hm : m < 32) : (x >>> (nI m &&& 31)) &&& 1 = if bt x m then 1 else 0 := by
  apply b_ext
  intro i hi
  rw [b_and, b_sshr m hm x hi, b_1 i hi]
  by_cases c : i = 0
  · subst c
    rw [Nat.add_zero, if_pos hm]
    cases bt x m <;> decide
  · rw [decide_eq_false c, Bool.and_false]
    cases bt x m
    · exact (b_0 i).symm
    · rw [if_pos rfl, b_1 i hi, decide_eq_false c]
theorem b_pow (m : Nat) (hm : m < 32) {i : Nat} (hi : i < 32) : bt ((1 : Int32) <<< (nI m &&& 31)) i = decide (i = m) := by
  rw [b_shl m hm 1 hi]
  by_cases c : m ≤ i
  · rw [b_1 (i - m) (by omega), decide_eq_true c, Bool.true_and]
    by_cases e : i = m
    · rw [decide_eq_true e, decide_eq_true (by omega)]
    · rw [decide_eq_false e, decide_eq_false (by omega)]
  · rw [decide_eq_false c, Bool.false_and, decide_eq_false (by omega)]
theorem b_nI (n : Nat) {i : Nat} (hi : i < 32) : bt (nI n) i = n.testBit i := by
  show (BitVec.ofNat 32 n).getLsbD i = _
  rw [BitVec.getLsbD_ofNat]
  simp [hi]
/-! a look: the ways of nine marks -/
def LK (L : Int32) (w : Nat → Nat) : Prop := (∀ m, m < 9 → bt L m = (w m).testBit 0 ∧ bt L (m + 9) = (w m).testBit 1) ∧ ∀ i, 18 ≤ i → bt L i = false
theorem way4 : ∀ w, w < 4 → ∀ b0 b1 : Bool, b0 = w.testBit 0 → b1 = w.testBit 1 → (if b0 then (1 : Int32) else 0) ||| ((if b1 then (1 : Int32) else 0) <<< ((1 : Int32) &&& 31)) = nI w := by decide +kernel
theorem x_wayIn {N : Nat} {L : Int32} {w : Nat → Nat} (h : LK L w) {m : Nat} (hm : m < 9) (hw : w m ≤ 3) : f_X4_wayIn N L (nI m) = some (nI (w m)) := by
  unfold f_X4_wayIn
  rw [lit_nI 9, nI_addn, b_sft L m (by omega), b_sft L (m + 9) (by omega)]
  exact congrArg some (way4 (w m) (by omega) _ _ (h.1 m hm).1 (h.1 m hm).2)
theorem b_not (x : Int32) {i : Nat} (hi : i < 32) : bt (x ^^^ (-1)) i = !bt x i := by
  rw [b_xor, b_m1 i hi, Bool.xor_true]
/-- copied: in the marks of a set as the model is, in the others as the look is -/
theorem b_copied (L M s : Int32) {i : Nat} (hi : i < 32) : bt ((L &&& ((s ||| (s <<< ((9 : Int32) &&& 31))) ^^^ (-1))) ||| (M &&& (s ||| (s <<< ((9 : Int32) &&& 31))))) i = if (bt s i || (decide (9 ≤ i) && bt s (i - 9))) then bt M i else bt L i := by
  rw [b_or, b_and, b_and, b_not _ hi, b_or, b_shl9 s hi]
  cases (bt s i || (decide (9 ≤ i) && bt s (i - 9))) <;> simp
theorem x_copied {N : Nat} {L M s : Int32} {w v : Nat → Nat} {S : Nat → Bool} (hL : LK L w) (hM : ∀ m, m < 9 → S m = true → bt M m = (v m).testBit 0 ∧ bt M (m + 9) = (v m).testBit 1) (hs : ∀ i, i < 32 → bt s i = (decide (i < 9) && S i)) :
    ∃ R, f_X4_copied N L M s = some R ∧ LK R (fun m => if S m then v m else w m) := by
  refine ⟨_, rfl, ?_, ?_⟩
  · intro m hm
    constructor
    · rw [b_copied L M s (by omega), hs m (by omega), decide_eq_true hm, Bool.true_and, decide_eq_false (show ¬ 9 ≤ m by omega), Bool.false_and, Bool.or_false]
      cases c : S m with
      | true => simp only [c, if_true]; exact (hM m hm c).1
      | false => simp only [c, Bool.false_eq_true, if_false]; exact (hL.1 m hm).1
    · rw [b_copied L M s (by omega), hs (m + 9) (by omega), decide_eq_false (show ¬ m + 9 < 9 by omega), Bool.false_and, Bool.false_or, decide_eq_true (show 9 ≤ m + 9 by omega), Bool.true_and, Nat.add_sub_cancel, hs m (by omega), decide_eq_true hm, Bool.true_and]
      cases c : S m with
      | true => simp only [c, if_true]; exact (hM m hm c).2
      | false => simp only [c, Bool.false_eq_true, if_false]; exact (hL.1 m hm).2
  · intro i hi
    rcases Nat.lt_or_ge i 32 with h | h
    · rw [b_copied L M s h, hs i h, decide_eq_false (show ¬ i < 9 by omega), Bool.false_and, Bool.false_or, hs (i - 9) (by omega), decide_eq_false (show ¬ i - 9 < 9 by omega), Bool.false_and, Bool.and_false]
      exact hL.2 i hi
    · exact b_big h
theorem wbit4 : ∀ w, w < 4 → ∀ i, i < 32 → bt (nI w &&& 1) i = (decide (i = 0) && w.testBit 0) ∧ bt ((nI w >>> ((1 : Int32) &&& 31)) &&& 1) i = (decide (i = 0) && w.testBit 1) := by decide +kernel
theorem x_withWay {N : Nat} {L : Int32} {w : Nat → Nat} (hL : LK L w) {m x : Nat} (hm : m < 9) (hx : x ≤ 3) : ∃ R, f_X4_withWay N L (nI m) (nI x) = some R ∧ LK R (va_up w m x) := by
  unfold f_X4_withWay
  rw [lt_eq, lt_eq, lit_nI 9, nI_addn]
  have hM : ∀ m', m' < 9 → decide (m' = m) = true → bt (((nI x &&& 1) <<< (nI m &&& 31)) ||| (((nI x >>> ((1 : Int32) &&& 31)) &&& 1) <<< (nI (m + 9) &&& 31))) m' = ((fun _ => x) m').testBit 0 ∧ bt (((nI x &&& 1) <<< (nI m &&& 31)) ||| (((nI x >>> ((1 : Int32) &&& 31)) &&& 1) <<< (nI (m + 9) &&& 31))) (m' + 9) = ((fun _ => x) m').testBit 1 := by
    intro m' hm' e
    have e := of_decide_eq_true e
    subst e
    constructor
    · rw [b_or, b_shl m' (by omega) _ (by omega), b_shl (m' + 9) (by omega) _ (by omega), Nat.sub_self, (wbit4 x (by omega) 0 (by decide)).1, decide_eq_false (show ¬ m' + 9 ≤ m' by omega)]
      simp
    · rw [b_or, b_shl m' (by omega) _ (by omega), b_shl (m' + 9) (by omega) _ (by omega), Nat.sub_self, (wbit4 x (by omega) 0 (by decide)).2, show m' + 9 - m' = 9 by omega, (wbit4 x (by omega) 9 (by decide)).1]
      simp
  obtain ⟨R, h1, h2⟩ := x_copied (N := N) (s := (1 : Int32) <<< (nI m &&& 31)) hL hM (fun i hi => by
    rw [b_pow m (by omega) hi]
    by_cases c : i = m
    · rw [decide_eq_true c, decide_eq_true (show i < 9 by omega)]; rfl
    · rw [decide_eq_false c, Bool.and_false])
  rw [h1]
  refine ⟨R, rfl, ?_⟩
  have e : (fun m' => if decide (m' = m) = true then (fun _ => x) m' else w m') = va_up w m x := by
    funext m'
    unfold va_up
    by_cases c : m' = m
    · simp [c]
    · simp [c]
  rw [← e]
  exact h2
/-- unlike: the marks in which two looks differ -/
theorem x_unlike {N : Nat} {L M : Int32} {w v : Nat → Nat} (hL : LK L w) (hM : LK M v) (hw : ∀ m, m < 9 → w m ≤ 3) (hv : ∀ m, m < 9 → v m ≤ 3) : ∃ R, f_X4_unlike N L M = some R ∧ ∀ i, i < 32 → bt R i = (decide (i < 9) && decide (w i ≠ v i)) := by
  unfold f_X4_unlike
  rw [lt_eq]
  refine ⟨_, rfl, ?_⟩
  intro i hi
  rw [b_and, b_511 i hi, b_or, b_xor, b_sshr9 _ hi]
  by_cases c : i < 9
  · rw [decide_eq_true c, Bool.and_true, Bool.true_and, if_pos (by omega), b_xor, Nat.add_comm 9 i, (hL.1 i c).1, (hL.1 i c).2, (hM.1 i c).1, (hM.1 i c).2]
    have key : ∀ x, x < 4 → ∀ y, y < 4 → ((x.testBit 0 ^^ y.testBit 0) || (x.testBit 1 ^^ y.testBit 1)) = decide (x ≠ y) := by decide +kernel
    exact key (w i) (by have := hw i c; omega) (v i) (by have := hv i c; omega)
  · rw [decide_eq_false c, Bool.and_false, Bool.false_and]
