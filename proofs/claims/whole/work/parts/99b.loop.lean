set_option maxHeartbeats 4000000 in
set_option maxRecDepth 100000 in
theorem law_loop {p : Program} {l : Launch} {e : Env} {s : State} {m : MethodId} {below : List Frame} {meth : Method} {c : Code} {b L N : Nat} {xs : Nat → Int32} {g : gE} {q q2 : Nat → Nat} (C : LC p s m c b L xs g (fun a : Nat => s.heap.size ≤ a)) (hr : meth.sig.returnType = ret) (hlocks : meth.locks = false) (hL : L ≤ 3072) (hN : 5000 ≤ N) :
    ∀ (n i : Nat), i ≤ L → L + 1 ≤ i + n → ∀ (x : XD) (y : MD) (H : Heap) (locs : List Loc) (ls : Array Slot), Sys x y → Wd g (fun a : Nat => s.heap.size ≤ a) (XC g q x ++ MC g q2 y) s H locs → lv_has ls 4 [(0, .ref b), (1, .ref (q 0)), (2, .ref (q2 0)), (3, .int (nI i))] →
      W p l e room_1 s m #[Value.ref b] below meth c H locs 63 1977 (lw_Z below #[Value.ref b] s) (F0 m 18 ls []) := by
  have cx := C.1
  have hx := cx.1.1
  have hb := cx.1.2.1
  intro n
  induction n with
  | zero => intro i h1 h2; exact absurd h2 (by omega)
  | succ n ih =>
    intro i hi hin x y H locs ls hs hw hl
    refine lv_iload_n hx hb dL_law_18 rfl (lv_at hl 3 rfl) ?_
    refine lv_aload_n hx hb dL_law_19 rfl (lv_at hl 0 rfl) ?_
    refine va_slen hx hb C.2.1 C.2.2.1 C.2.2.2 hw.2.2 dL_law_20 ?_
    refine lv_bipush (v := 6) hx hb dL_law_21 (by decide) ?_
    refine lv_isub hx hb dL_law_23 ?_
    have eL : (Int32.ofNat L - 6).toInt = (L : Int) - 6 := by
      have h1 : (Int32.ofNat L).toInt = (L : Int) := nI_toInt (by omega)
      rw [Int32.toInt_sub, h1, show (6 : Int32).toInt = 6 from by decide, Int.bmod_eq_of_le (by omega) (by omega)]
    have ei : (nI i).toInt = (i : Int) := nI_toInt (by omega)
    refine lv_icmp_gt (tgt := 1560) hx hb dL_law_24 (by decide) (fun _ => ?_) (fun c1 => ?_)
    · refine lv_iconst (v := 1) hx hb dL_law_1560 (by decide) ?_
      refine va_forget (fun q hq => hw.2.2.2.2 q hq) ?_
      refine W.widen (k := 600000) (n := 7302250) (by omega) (by omega) ?_
      exact lw_ret hx hb hr hlocks dL_law_1561
    · have h6 : i + 6 ≤ L := by
        rw [fa_lt', eL, ei] at c1
        omega
      have K : ∀ (x2 : XD) (y2 : MD) (H2 : Heap) (locs2 : List Loc), Sys x2 y2 → Wd g (fun a : Nat => s.heap.size ≤ a) (XC g q x2 ++ MC g q2 y2) s H2 locs2 → W p l e room_1 s m #[Value.ref b] below meth c H2 locs2 63 1977 (lw_Z below #[Value.ref b] s) (F0 m 1554 ls []) := by
        intro x2 y2 H2 locs2 hs2 hw2
        refine lv_iinc (v := nI (i + 6)) (lv' := [(3, .int (nI (i + 6))), (0, .ref b), (1, .ref (q 0)), (2, .ref (q2 0))]) hx hb dL_law_1554 hl (k := 3) rfl (by rw [show Int32.ofInt 6 = nI 6 from by decide, nI_addn]) (by decide) rfl (fun ls hl => ?_)
        refine lv_goto (tgt := 18) hx hb dL_law_1557 (by decide) ?_
        exact ih (i + 6) h6 (by omega) x2 y2 H2 locs2 ls hs2 hw2 (lv_sub hl [1, 2, 3, 0] rfl)
      refine lv_aload_n hx hb dL_law_27 rfl (lv_at hl 0 rfl) ?_
      refine lv_iload_n hx hb dL_law_28 rfl (lv_at hl 3 rfl) ?_
      refine va_sld hx hb C.2.1 C.2.2.1 C.2.2.2 hw.2.2 (vp_in_nI (show i < L by omega) (by omega)) dL_law_29 ?_
      refine lv_bipush (v := 63) hx hb dL_law_30 (by decide) ?_
      refine lv_iand hx hb dL_law_32 ?_
      rw [pk_and (xs (nI i).toNatClampNeg) 6 (by decide)]
      have hj : (xs (nI i).toNatClampNeg).toBitVec.toNat % 2 ^ 6 < 64 := Nat.mod_lt _ (by decide)
      generalize (xs (nI i).toNatClampNeg).toBitVec.toNat % 2 ^ 6 = j at hj ⊢
      have ej : (nI j).toInt = (j : Int) := nI_toInt (by omega)
      by_cases hlt : 44 < j
      · exact lv_tableOut (tgt := 1554) hx hb dL_law_33 (Or.inr (by omega)) (by decide) (K x y H locs hs hw)
      rcases Nat.eq_or_lt_of_le (show 0 ≤ j by omega) with rfl | hj0
      · exact lv_tableIn (off := 195) (tgt := 228) hx hb dL_law_33 (by decide) (by decide) (by decide) (by decide) (lw_mark C hL hN h6 hs hw hl K)
      rcases Nat.eq_or_lt_of_le (show 1 ≤ j by omega) with rfl | hj1
      · exact lv_tableIn (off := 238) (tgt := 271) hx hb dL_law_33 (by decide) (by decide) (by decide) (by decide) (lw_let C hL hN h6 hs hw hl K)
      rcases Nat.eq_or_lt_of_le (show 2 ≤ j by omega) with rfl | hj2
      · exact lv_tableIn (off := 261) (tgt := 294) hx hb dL_law_33 (by decide) (by decide) (by decide) (by decide) (lw_person C hL hN h6 hs hw hl K)
      rcases Nat.eq_or_lt_of_le (show 3 ≤ j by omega) with rfl | hj3
      · exact lv_tableIn (off := 294) (tgt := 327) hx hb dL_law_33 (by decide) (by decide) (by decide) (by decide) (lw_of C hL hN h6 hs hw hl K)
      rcases Nat.eq_or_lt_of_le (show 4 ≤ j by omega) with rfl | hj4
      · exact lv_tableIn (off := 327) (tgt := 360) hx hb dL_law_33 (by decide) (by decide) (by decide) (by decide) (lw_set C hL hN h6 hs hw hl K)
      rcases Nat.eq_or_lt_of_le (show 5 ≤ j by omega) with rfl | hj5
      · exact lv_tableIn (off := 370) (tgt := 403) hx hb dL_law_33 (by decide) (by decide) (by decide) (by decide) (lw_way C hL hN h6 hs hw hl K)
      rcases Nat.eq_or_lt_of_le (show 6 ≤ j by omega) with rfl | hj6
      · exact lv_tableIn (off := 403) (tgt := 436) hx hb dL_law_33 (by decide) (by decide) (by decide) (by decide) (lw_be C hL hN h6 hs hw hl K)
      rcases Nat.eq_or_lt_of_le (show 7 ≤ j by omega) with rfl | hj7
      · exact lv_tableIn (off := 446) (tgt := 479) hx hb dL_law_33 (by decide) (by decide) (by decide) (by decide) (lw_turn C hL hN h6 hs hw hl K)
      rcases Nat.eq_or_lt_of_le (show 8 ≤ j by omega) with rfl | hj8
      · exact lv_tableIn (off := 479) (tgt := 512) hx hb dL_law_33 (by decide) (by decide) (by decide) (by decide) (lw_as C hL hN h6 hs hw hl K)
      rcases Nat.eq_or_lt_of_le (show 9 ≤ j by omega) with rfl | hj9
      · exact lv_tableIn (off := 512) (tgt := 545) hx hb dL_law_33 (by decide) (by decide) (by decide) (by decide) (lw_like C hL hN h6 hs hw hl K)
      rcases Nat.eq_or_lt_of_le (show 10 ≤ j by omega) with rfl | hj10
      · exact lv_tableIn (off := 545) (tgt := 578) hx hb dL_law_33 (by decide) (by decide) (by decide) (by decide) (lw_same C hL hN h6 hs hw hl K)
      rcases Nat.eq_or_lt_of_le (show 11 ≤ j by omega) with rfl | hj11
      · exact lv_tableIn (off := 578) (tgt := 611) hx hb dL_law_33 (by decide) (by decide) (by decide) (by decide) (lw_heir C hL hN h6 hs hw hl K)
      rcases Nat.eq_or_lt_of_le (show 12 ≤ j by omega) with rfl | hj12
      · exact lv_tableIn (off := 601) (tgt := 634) hx hb dL_law_33 (by decide) (by decide) (by decide) (by decide) (lw_heirOf C hL hN h6 hs hw hl K)
      rcases Nat.eq_or_lt_of_le (show 13 ≤ j by omega) with rfl | hj13
      · exact lv_tableIn (off := 624) (tgt := 657) hx hb dL_law_33 (by decide) (by decide) (by decide) (by decide) (lw_watched C hL hN h6 hs hw hl K)
      rcases Nat.eq_or_lt_of_le (show 14 ≤ j by omega) with rfl | hj14
      · exact lv_tableIn (off := 647) (tgt := 680) hx hb dL_law_33 (by decide) (by decide) (by decide) (by decide) (lw_changes C hL hN h6 hs hw hl K)
      rcases Nat.eq_or_lt_of_le (show 15 ≤ j by omega) with rfl | hj15
      · exact lv_tableIn (off := 670) (tgt := 703) hx hb dL_law_33 (by decide) (by decide) (by decide) (by decide) (lw_years C hL hN h6 hs hw hl K)
      rcases Nat.eq_or_lt_of_le (show 16 ≤ j by omega) with rfl | hj16
      · exact lv_tableIn (off := 693) (tgt := 726) hx hb dL_law_33 (by decide) (by decide) (by decide) (by decide) (lw_dies C hL hN h6 hs hw hl K)
      rcases Nat.eq_or_lt_of_le (show 17 ≤ j by omega) with rfl | hj17
      · exact lv_tableIn (off := 716) (tgt := 749) hx hb dL_law_33 (by decide) (by decide) (by decide) (by decide) (lw_now C hL hN h6 hs hw hl K)
      rcases Nat.eq_or_lt_of_le (show 18 ≤ j by omega) with rfl | hj18
      · exact lv_tableIn (off := 739) (tgt := 772) hx hb dL_law_33 (by decide) (by decide) (by decide) (by decide) (lw_on C hL hN h6 hs hw hl K)
      rcases Nat.eq_or_lt_of_le (show 19 ≤ j by omega) with rfl | hj19
      · exact lv_tableIn (off := 772) (tgt := 805) hx hb dL_law_33 (by decide) (by decide) (by decide) (by decide) (lw_living C hL hN h6 hs hw hl K)
      rcases Nat.eq_or_lt_of_le (show 20 ≤ j by omega) with rfl | hj20
      · exact lv_tableIn (off := 795) (tgt := 828) hx hb dL_law_33 (by decide) (by decide) (by decide) (by decide) (lw_rich C hL hN h6 hs hw hl K)
      rcases Nat.eq_or_lt_of_le (show 21 ≤ j by omega) with rfl | hj21
      · exact lv_tableIn (off := 818) (tgt := 851) hx hb dL_law_33 (by decide) (by decide) (by decide) (by decide) (lw_when C hL hN h6 hs hw hl K)
      rcases Nat.eq_or_lt_of_le (show 22 ≤ j by omega) with rfl | hj22
      · exact lv_tableIn (off := 841) (tgt := 874) hx hb dL_law_33 (by decide) (by decide) (by decide) (by decide) (lw_gets C hL hN h6 hs hw hl K)
      rcases Nat.eq_or_lt_of_le (show 23 ≤ j by omega) with rfl | hj23
      · exact lv_tableIn (off := 864) (tgt := 897) hx hb dL_law_33 (by decide) (by decide) (by decide) (by decide) (lw_change C hL hN h6 hs hw hl K)
      rcases Nat.eq_or_lt_of_le (show 24 ≤ j by omega) with rfl | hj24
      · exact lv_tableIn (off := 897) (tgt := 930) hx hb dL_law_33 (by decide) (by decide) (by decide) (by decide) (lw_fewest C hL hN h6 hs hw hl K)
      rcases Nat.eq_or_lt_of_le (show 25 ≤ j by omega) with rfl | hj25
      · exact lv_tableIn (off := 930) (tgt := 963) hx hb dL_law_33 (by decide) (by decide) (by decide) (by decide) (lw_worth C hL hN h6 hs hw hl K)
      rcases Nat.eq_or_lt_of_le (show 26 ≤ j by omega) with rfl | hj26
      · exact lv_tableIn (off := 963) (tgt := 996) hx hb dL_law_33 (by decide) (by decide) (by decide) (by decide) (lw_best C hL hN h6 hs hw hl K)
      rcases Nat.eq_or_lt_of_le (show 27 ≤ j by omega) with rfl | hj27
      · exact lv_tableIn (off := 986) (tgt := 1019) hx hb dL_law_33 (by decide) (by decide) (by decide) (by decide) (lw_steer C hL hN h6 hs hw hl K)
      rcases Nat.eq_or_lt_of_le (show 28 ≤ j by omega) with rfl | hj28
      · exact lv_tableIn (off := 1019) (tgt := 1052) hx hb dL_law_33 (by decide) (by decide) (by decide) (by decide) (lw_kind C hL hN h6 hs hw hl K)
      rcases Nat.eq_or_lt_of_le (show 29 ≤ j by omega) with rfl | hj29
      · exact lv_tableIn (off := 1052) (tgt := 1085) hx hb dL_law_33 (by decide) (by decide) (by decide) (by decide) (lw_fair C hL hN h6 hs hw hl K)
      rcases Nat.eq_or_lt_of_le (show 30 ≤ j by omega) with rfl | hj30
      · exact lv_tableIn (off := 1075) (tgt := 1108) hx hb dL_law_33 (by decide) (by decide) (by decide) (by decide) (lw_ways C hL hN h6 hs hw hl K)
      rcases Nat.eq_or_lt_of_le (show 31 ≤ j by omega) with rfl | hj31
      · exact lv_tableIn (off := 1108) (tgt := 1141) hx hb dL_law_33 (by decide) (by decide) (by decide) (by decide) (lw_feed C hL hN h6 hs hw hl K)
      rcases Nat.eq_or_lt_of_le (show 32 ≤ j by omega) with rfl | hj32
      · exact lv_tableIn (off := 1141) (tgt := 1174) hx hb dL_law_33 (by decide) (by decide) (by decide) (by decide) (lw_wipe C hL hN h6 hs hw hl K)
      rcases Nat.eq_or_lt_of_le (show 33 ≤ j by omega) with rfl | hj33
      · exact lv_tableIn (off := 1154) (tgt := 1187) hx hb dL_law_33 (by decide) (by decide) (by decide) (by decide) (lw_valley C hL hN h6 hs hw hl K)
      rcases Nat.eq_or_lt_of_le (show 34 ≤ j by omega) with rfl | hj34
      · exact lv_tableIn (off := 1167) (tgt := 1200) hx hb dL_law_33 (by decide) (by decide) (by decide) (by decide) (lw_sheet C hL hN h6 hs hw hl K)
      rcases Nat.eq_or_lt_of_le (show 35 ≤ j by omega) with rfl | hj35
      · exact lv_tableIn (off := 1210) (tgt := 1243) hx hb dL_law_33 (by decide) (by decide) (by decide) (by decide) (lw_write C hL hN h6 hs hw hl K)
      rcases Nat.eq_or_lt_of_le (show 36 ≤ j by omega) with rfl | hj36
      · exact lv_tableIn (off := 1284) (tgt := 1317) hx hb dL_law_33 (by decide) (by decide) (by decide) (by decide) (lw_copy C hL hN h6 hs hw hl K)
      rcases Nat.eq_or_lt_of_le (show 37 ≤ j by omega) with rfl | hj37
      · exact lv_tableIn (off := 1347) (tgt := 1380) hx hb dL_law_33 (by decide) (by decide) (by decide) (by decide) (lw_lays C hL hN h6 hs hw hl K)
      rcases Nat.eq_or_lt_of_le (show 38 ≤ j by omega) with rfl | hj38
      · exact lv_tableIn (off := 1380) (tgt := 1413) hx hb dL_law_33 (by decide) (by decide) (by decide) (by decide) (lw_book C hL hN h6 hs hw hl K)
      rcases Nat.eq_or_lt_of_le (show 39 ≤ j by omega) with rfl | hj39
      · exact lv_tableIn (off := 1413) (tgt := 1446) hx hb dL_law_33 (by decide) (by decide) (by decide) (by decide) (lw_read C hL hN h6 hs hw hl K)
      rcases Nat.eq_or_lt_of_le (show 40 ≤ j by omega) with rfl | hj40
      · exact lv_tableIn (off := 1436) (tgt := 1469) hx hb dL_law_33 (by decide) (by decide) (by decide) (by decide) (lw_image C hL hN h6 hs hw hl K)
      rcases Nat.eq_or_lt_of_le (show 41 ≤ j by omega) with rfl | hj41
      · exact lv_tableIn (off := 1449) (tgt := 1482) hx hb dL_law_33 (by decide) (by decide) (by decide) (by decide) (lw_undo C hL hN h6 hs hw hl K)
      rcases Nat.eq_or_lt_of_le (show 42 ≤ j by omega) with rfl | hj42
      · exact lv_tableIn (off := 1462) (tgt := 1495) hx hb dL_law_33 (by decide) (by decide) (by decide) (by decide) (lw_tear C hL hN h6 hs hw hl K)
      rcases Nat.eq_or_lt_of_le (show 43 ≤ j by omega) with rfl | hj43
      · exact lv_tableIn (off := 1475) (tgt := 1508) hx hb dL_law_33 (by decide) (by decide) (by decide) (by decide) (lw_count C hL hN h6 hs hw hl K)
      rcases Nat.eq_or_lt_of_le (show 44 ≤ j by omega) with rfl | hj44
      · exact lv_tableIn (off := 1498) (tgt := 1531) hx hb dL_law_33 (by decide) (by decide) (by decide) (by decide) (lw_status C hL hN h6 hs hw hl K)
      exact absurd hlt (by omega)
