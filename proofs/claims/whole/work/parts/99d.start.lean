set_option maxHeartbeats 4000000 in
set_option maxRecDepth 100000 in
theorem whole_start {p : Program} {e : Env} {s : State} {m : MethodId} {below : List Frame} {meth : Method} {c : Code} (l : Launch) (hflags : l.flags = flags0) {b L : Nat} {xs : Nat → Int32} (hL : L ≤ 3072) (C0 : lw_At p s m meth c b L xs) : W p l e room_1 s m #[Value.ref b] below meth c s.heap [] 0 0 (lw_Z below #[Value.ref b] s) (entryFrame m ([Value.ref b] : List Value).toArray 4) := by
  obtain ⟨hx, hb, hr, hml, hown, hts, hX, hbl, hlocks, hgv⟩ := C0
  have hA : ∀ a : Nat, a < s.heap.size → ¬ (fun a : Nat => s.heap.size ≤ a) a := fun a ha => Nat.not_le.mpr ha
  obtain ⟨g, hK, hSX⟩ := gv_g hgv hts hA
  have hAO : va_AO "LikestHeir$Sheet" s := va_AO.of (hts _ tl_1_155)
  have cx : Cx p m c code 4 s #[Value.ref b] RL g (fun a : Nat => s.heap.size ≤ a) := ⟨⟨hx, hb, hml, hown, fun w hw => hts w (tb_in hw)⟩, hK, NW.of hts, fun _ h => h, hSX⟩
  have C : LC p s m c b L xs g (fun a : Nat => s.heap.size ≤ a) := ⟨cx, hX, hbl, hA b hbl⟩
  obtain ⟨v, y, e1, e2, hs⟩ := st_sys (N := 5000) (Nat.le_refl 5000)
  have hw : Wd g (fun a : Nat => s.heap.size ≤ a) [] s s.heap [] := ⟨fun k q h => by simp at h, ⟨fun i j p q h => by simp at h, fun k q h => by simp at h⟩, va_S.rf⟩
  have hl := lv_entry ([.ref b]) (n := 4) (Nat.le_of_ble_eq_true rfl)
  rw [lg_entry_eq]
  generalize (lg_sl ([.ref b]) ++ List.replicate (4 - (lg_sl ([.ref b])).length) Slot.unset).toArray = ls at hl ⊢
  have hl : lv_has ls 4 [(0, .ref b)] := hl
  refine x_new (ci := 4) (fs := [.null, .null, .null, .null, .null, .null, .int 0]) (C := RX4) (T := TX4) (N := 7) cx hw inT_X4 rfl tyX4 tyX4_ok tw_1_15 tw_1_16 tw_1_1 (fun j hj => by rcases (show j = 0 ∨ j = 1 ∨ j = 2 ∨ j = 3 ∨ j = 4 ∨ j = 5 ∨ j = 6 by omega) with rfl | rfl | rfl | rfl | rfl | rfl | rfl <;> rfl) (Nat.le_of_ble_eq_true rfl) (Nat.le_of_ble_eq_true rfl) dL_law_0 (fun b1 H hw => ?_)
  refine lv_dup hx hb dL_law_3 rfl ?_
  refine c_X (w1 := []) (rest := [.ref b1]) cx hw (c_X4_init l g b1 5000 v e1) (fun U V hv z => va_AO.moved (by rw [hv]; exact Vm.Alike.refl U.vm) z) (fun U hW => va_AO.moved hW.alike hAO) (cw_I 0 cx.1.2.2.2.2 tw_1_17 tw_1_18 tw_1_1 tw_1_19 rfl rfl rfl (by decide +kernel) ⟨(Nat.le_of_ble_eq_true rfl), (Nat.le_of_ble_eq_true rfl)⟩) hl.1 rfl (Nat.le_of_ble_eq_true rfl) dL_law_4 ⟨(Nat.le_of_ble_eq_true rfl), (Nat.le_of_ble_eq_true rfl)⟩ (fun q H locs eq hw2 => ?_)
  subst eq
  have hw : Wd g (fun a : Nat => s.heap.size ≤ a) (XC g q (xZ v)) s H locs := hw2
  refine lv_astore_n (lv' := [(1, .ref (q 0)), (0, .ref b)]) hx hb dL_law_7 rfl hl (by decide) rfl (fun ls hl => ?_)
  refine x_new (ci := 5) (fs := [.null, .null, .null, .null, .int 0, .null, .null, .int 0, .null, .null, .null, .int 0, .int 0, .int 0, .int 0, .int 0, .int 0, .int 0, .int 0]) (C := RX5) (T := TX5) (N := 19) cx hw inT_X5 rfl tyX5 tyX5_ok tw_4_3 tw_4_4 tw_1_7 (fun j hj => by rcases (show j = 0 ∨ j = 1 ∨ j = 2 ∨ j = 3 ∨ j = 4 ∨ j = 5 ∨ j = 6 ∨ j = 7 ∨ j = 8 ∨ j = 9 ∨ j = 10 ∨ j = 11 ∨ j = 12 ∨ j = 13 ∨ j = 14 ∨ j = 15 ∨ j = 16 ∨ j = 17 ∨ j = 18 by omega) with rfl | rfl | rfl | rfl | rfl | rfl | rfl | rfl | rfl | rfl | rfl | rfl | rfl | rfl | rfl | rfl | rfl | rfl | rfl <;> rfl) (Nat.le_of_ble_eq_true rfl) (Nat.le_of_ble_eq_true rfl) dL_law_8 (fun b2 H hw => ?_)
  refine lv_dup hx hb dL_law_11 rfl ?_
  refine c_X (w1 := XC g q (xZ v)) (rest := [.ref b2]) cx hw (c_X5_init l g b2 5000 y e2) (fun _ _ _ z => z) (fun _ _ => trivial) (cw_I 0 cx.1.2.2.2.2 tw_4_5 tw_4_6 tw_1_7 tw_4_7 rfl rfl rfl (by decide +kernel) ⟨(Nat.le_of_ble_eq_true rfl), (Nat.le_of_ble_eq_true rfl)⟩) hl.1 rfl (Nat.le_of_ble_eq_true rfl) dL_law_12 ⟨(Nat.le_of_ble_eq_true rfl), (Nat.le_of_ble_eq_true rfl)⟩ (fun q2 H locs eq hw2 => ?_)
  subst eq
  refine lv_astore_n (lv' := [(2, .ref (q2 0)), (1, .ref (q 0)), (0, .ref b)]) hx hb dL_law_15 rfl hl (by decide) rfl (fun ls hl => ?_)
  refine lv_iconst (v := nI 0) hx hb dL_law_16 (by decide) ?_
  refine lv_istore_n (lv' := [(3, .int (nI 0)), (2, .ref (q2 0)), (1, .ref (q 0)), (0, .ref b)]) hx hb dL_law_17 rfl hl (by decide) rfl (fun ls hl => ?_)
  exact law_loop (N := 5000) C hr hlocks hL (Nat.le_refl 5000) (L + 1) 0 (Nat.zero_le L) (by omega) (xZ v) y H locs ls hs hw2 (lv_sub hl [3, 2, 1, 0] rfl)
