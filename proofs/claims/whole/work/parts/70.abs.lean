/-! ===== THE VALLEY IN PLAIN NUMBERS ===== -/
/-- an optional one: 0 nobody, k + 1: k -/
def enc (o : Nat) : Int32 := if o = 0 then -1 else nI (o - 1)
theorem enc_0 : enc 0 = -1 := rfl
theorem enc_s (k : Nat) : enc (k + 1) = nI k := by unfold enc; rw [if_neg (Nat.succ_ne_zero k)]; rfl
def sm (f : Nat → Nat) : Nat → Nat
  | 0 => 0
  | n + 1 => sm f n + f n
theorem sm_le {f : Nat → Nat} {c : Nat} : ∀ {n : Nat}, (∀ k, k < n → f k ≤ c) → sm f n ≤ n * c
  | 0, _ => Nat.zero_le _
  | n + 1, h => by
    have h1 := sm_le (n := n) (fun k hk => h k (by omega))
    have h2 := h n (by omega)
    have h3 : (n + 1) * c = n * c + c := Nat.succ_mul n c
    show sm f n + f n ≤ _
    omega
theorem sm_cong {f g : Nat → Nat} : ∀ {n : Nat}, (∀ k, k < n → f k = g k) → sm f n = sm g n
  | 0, _ => rfl
  | n + 1, h => by
    show sm f n + f n = sm g n + g n
    rw [sm_cong (n := n) (fun k hk => h k (by omega)), h n (by omega)]
abbrev AS : Type := Nat × Nat × Nat × (Nat → Nat) × (Nat → Nat) × (Nat → Nat) × (Nat → Nat) × (Nat → Nat) × (Nat → Nat) × (Nat → Nat) × (Nat → Bool) × (Nat → Nat → Nat)
def a_n (a : AS) : Nat := a.1
def a_y (a : AS) : Nat := a.2.1
def a_l (a : AS) : Nat := a.2.2.1
def a_wt (a : AS) : (Nat → Nat) := a.2.2.2.1
def a_co (a : AS) : (Nat → Nat) := a.2.2.2.2.1
def a_kd (a : AS) : (Nat → Nat) := a.2.2.2.2.2.1
def a_ag (a : AS) : (Nat → Nat) := a.2.2.2.2.2.2.1
def a_gd (a : AS) : (Nat → Nat) := a.2.2.2.2.2.2.2.1
def a_tm (a : AS) : (Nat → Nat) := a.2.2.2.2.2.2.2.2.1
def a_ch (a : AS) : (Nat → Nat) := a.2.2.2.2.2.2.2.2.2.1
def a_lv (a : AS) : (Nat → Bool) := a.2.2.2.2.2.2.2.2.2.2.1
def a_wy (a : AS) : (Nat → Nat → Nat) := a.2.2.2.2.2.2.2.2.2.2.2
def a_set_n (a : AS) (x : Nat) : AS := (x, a.2.1, a.2.2.1, a.2.2.2.1, a.2.2.2.2.1, a.2.2.2.2.2.1, a.2.2.2.2.2.2.1, a.2.2.2.2.2.2.2.1, a.2.2.2.2.2.2.2.2.1, a.2.2.2.2.2.2.2.2.2.1, a.2.2.2.2.2.2.2.2.2.2.1, a.2.2.2.2.2.2.2.2.2.2.2)
def a_set_y (a : AS) (x : Nat) : AS := (a.1, x, a.2.2.1, a.2.2.2.1, a.2.2.2.2.1, a.2.2.2.2.2.1, a.2.2.2.2.2.2.1, a.2.2.2.2.2.2.2.1, a.2.2.2.2.2.2.2.2.1, a.2.2.2.2.2.2.2.2.2.1, a.2.2.2.2.2.2.2.2.2.2.1, a.2.2.2.2.2.2.2.2.2.2.2)
def a_set_l (a : AS) (x : Nat) : AS := (a.1, a.2.1, x, a.2.2.2.1, a.2.2.2.2.1, a.2.2.2.2.2.1, a.2.2.2.2.2.2.1, a.2.2.2.2.2.2.2.1, a.2.2.2.2.2.2.2.2.1, a.2.2.2.2.2.2.2.2.2.1, a.2.2.2.2.2.2.2.2.2.2.1, a.2.2.2.2.2.2.2.2.2.2.2)
def a_set_wt (a : AS) (x : (Nat → Nat)) : AS := (a.1, a.2.1, a.2.2.1, x, a.2.2.2.2.1, a.2.2.2.2.2.1, a.2.2.2.2.2.2.1, a.2.2.2.2.2.2.2.1, a.2.2.2.2.2.2.2.2.1, a.2.2.2.2.2.2.2.2.2.1, a.2.2.2.2.2.2.2.2.2.2.1, a.2.2.2.2.2.2.2.2.2.2.2)
def a_set_co (a : AS) (x : (Nat → Nat)) : AS := (a.1, a.2.1, a.2.2.1, a.2.2.2.1, x, a.2.2.2.2.2.1, a.2.2.2.2.2.2.1, a.2.2.2.2.2.2.2.1, a.2.2.2.2.2.2.2.2.1, a.2.2.2.2.2.2.2.2.2.1, a.2.2.2.2.2.2.2.2.2.2.1, a.2.2.2.2.2.2.2.2.2.2.2)
def a_set_kd (a : AS) (x : (Nat → Nat)) : AS := (a.1, a.2.1, a.2.2.1, a.2.2.2.1, a.2.2.2.2.1, x, a.2.2.2.2.2.2.1, a.2.2.2.2.2.2.2.1, a.2.2.2.2.2.2.2.2.1, a.2.2.2.2.2.2.2.2.2.1, a.2.2.2.2.2.2.2.2.2.2.1, a.2.2.2.2.2.2.2.2.2.2.2)
def a_set_ag (a : AS) (x : (Nat → Nat)) : AS := (a.1, a.2.1, a.2.2.1, a.2.2.2.1, a.2.2.2.2.1, a.2.2.2.2.2.1, x, a.2.2.2.2.2.2.2.1, a.2.2.2.2.2.2.2.2.1, a.2.2.2.2.2.2.2.2.2.1, a.2.2.2.2.2.2.2.2.2.2.1, a.2.2.2.2.2.2.2.2.2.2.2)
def a_set_gd (a : AS) (x : (Nat → Nat)) : AS := (a.1, a.2.1, a.2.2.1, a.2.2.2.1, a.2.2.2.2.1, a.2.2.2.2.2.1, a.2.2.2.2.2.2.1, x, a.2.2.2.2.2.2.2.2.1, a.2.2.2.2.2.2.2.2.2.1, a.2.2.2.2.2.2.2.2.2.2.1, a.2.2.2.2.2.2.2.2.2.2.2)
def a_set_tm (a : AS) (x : (Nat → Nat)) : AS := (a.1, a.2.1, a.2.2.1, a.2.2.2.1, a.2.2.2.2.1, a.2.2.2.2.2.1, a.2.2.2.2.2.2.1, a.2.2.2.2.2.2.2.1, x, a.2.2.2.2.2.2.2.2.2.1, a.2.2.2.2.2.2.2.2.2.2.1, a.2.2.2.2.2.2.2.2.2.2.2)
def a_set_ch (a : AS) (x : (Nat → Nat)) : AS := (a.1, a.2.1, a.2.2.1, a.2.2.2.1, a.2.2.2.2.1, a.2.2.2.2.2.1, a.2.2.2.2.2.2.1, a.2.2.2.2.2.2.2.1, a.2.2.2.2.2.2.2.2.1, x, a.2.2.2.2.2.2.2.2.2.2.1, a.2.2.2.2.2.2.2.2.2.2.2)
def a_set_lv (a : AS) (x : (Nat → Bool)) : AS := (a.1, a.2.1, a.2.2.1, a.2.2.2.1, a.2.2.2.2.1, a.2.2.2.2.2.1, a.2.2.2.2.2.2.1, a.2.2.2.2.2.2.2.1, a.2.2.2.2.2.2.2.2.1, a.2.2.2.2.2.2.2.2.2.1, x, a.2.2.2.2.2.2.2.2.2.2.2)
def a_set_wy (a : AS) (x : (Nat → Nat → Nat)) : AS := (a.1, a.2.1, a.2.2.1, a.2.2.2.1, a.2.2.2.2.1, a.2.2.2.2.2.1, a.2.2.2.2.2.2.1, a.2.2.2.2.2.2.2.1, a.2.2.2.2.2.2.2.2.1, a.2.2.2.2.2.2.2.2.2.1, a.2.2.2.2.2.2.2.2.2.2.1, x)
theorem a_n_sn (a : AS) (x : Nat) : a_n (a_set_n a x) = x := rfl
theorem a_y_sn (a : AS) (x : Nat) : a_y (a_set_n a x) = a_y a := rfl
theorem a_l_sn (a : AS) (x : Nat) : a_l (a_set_n a x) = a_l a := rfl
theorem a_wt_sn (a : AS) (x : Nat) : a_wt (a_set_n a x) = a_wt a := rfl
theorem a_co_sn (a : AS) (x : Nat) : a_co (a_set_n a x) = a_co a := rfl
theorem a_kd_sn (a : AS) (x : Nat) : a_kd (a_set_n a x) = a_kd a := rfl
theorem a_ag_sn (a : AS) (x : Nat) : a_ag (a_set_n a x) = a_ag a := rfl
theorem a_gd_sn (a : AS) (x : Nat) : a_gd (a_set_n a x) = a_gd a := rfl
theorem a_tm_sn (a : AS) (x : Nat) : a_tm (a_set_n a x) = a_tm a := rfl
theorem a_ch_sn (a : AS) (x : Nat) : a_ch (a_set_n a x) = a_ch a := rfl
theorem a_lv_sn (a : AS) (x : Nat) : a_lv (a_set_n a x) = a_lv a := rfl
theorem a_wy_sn (a : AS) (x : Nat) : a_wy (a_set_n a x) = a_wy a := rfl
theorem a_n_sy (a : AS) (x : Nat) : a_n (a_set_y a x) = a_n a := rfl
theorem a_y_sy (a : AS) (x : Nat) : a_y (a_set_y a x) = x := rfl
theorem a_l_sy (a : AS) (x : Nat) : a_l (a_set_y a x) = a_l a := rfl
theorem a_wt_sy (a : AS) (x : Nat) : a_wt (a_set_y a x) = a_wt a := rfl
theorem a_co_sy (a : AS) (x : Nat) : a_co (a_set_y a x) = a_co a := rfl
theorem a_kd_sy (a : AS) (x : Nat) : a_kd (a_set_y a x) = a_kd a := rfl
theorem a_ag_sy (a : AS) (x : Nat) : a_ag (a_set_y a x) = a_ag a := rfl
theorem a_gd_sy (a : AS) (x : Nat) : a_gd (a_set_y a x) = a_gd a := rfl
theorem a_tm_sy (a : AS) (x : Nat) : a_tm (a_set_y a x) = a_tm a := rfl
theorem a_ch_sy (a : AS) (x : Nat) : a_ch (a_set_y a x) = a_ch a := rfl
theorem a_lv_sy (a : AS) (x : Nat) : a_lv (a_set_y a x) = a_lv a := rfl
theorem a_wy_sy (a : AS) (x : Nat) : a_wy (a_set_y a x) = a_wy a := rfl
theorem a_n_sl (a : AS) (x : Nat) : a_n (a_set_l a x) = a_n a := rfl
theorem a_y_sl (a : AS) (x : Nat) : a_y (a_set_l a x) = a_y a := rfl
theorem a_l_sl (a : AS) (x : Nat) : a_l (a_set_l a x) = x := rfl
theorem a_wt_sl (a : AS) (x : Nat) : a_wt (a_set_l a x) = a_wt a := rfl
theorem a_co_sl (a : AS) (x : Nat) : a_co (a_set_l a x) = a_co a := rfl
theorem a_kd_sl (a : AS) (x : Nat) : a_kd (a_set_l a x) = a_kd a := rfl
theorem a_ag_sl (a : AS) (x : Nat) : a_ag (a_set_l a x) = a_ag a := rfl
theorem a_gd_sl (a : AS) (x : Nat) : a_gd (a_set_l a x) = a_gd a := rfl
theorem a_tm_sl (a : AS) (x : Nat) : a_tm (a_set_l a x) = a_tm a := rfl
theorem a_ch_sl (a : AS) (x : Nat) : a_ch (a_set_l a x) = a_ch a := rfl
theorem a_lv_sl (a : AS) (x : Nat) : a_lv (a_set_l a x) = a_lv a := rfl
theorem a_wy_sl (a : AS) (x : Nat) : a_wy (a_set_l a x) = a_wy a := rfl
theorem a_n_swt (a : AS) (x : (Nat → Nat)) : a_n (a_set_wt a x) = a_n a := rfl
theorem a_y_swt (a : AS) (x : (Nat → Nat)) : a_y (a_set_wt a x) = a_y a := rfl
theorem a_l_swt (a : AS) (x : (Nat → Nat)) : a_l (a_set_wt a x) = a_l a := rfl
theorem a_wt_swt (a : AS) (x : (Nat → Nat)) : a_wt (a_set_wt a x) = x := rfl
theorem a_co_swt (a : AS) (x : (Nat → Nat)) : a_co (a_set_wt a x) = a_co a := rfl
theorem a_kd_swt (a : AS) (x : (Nat → Nat)) : a_kd (a_set_wt a x) = a_kd a := rfl
theorem a_ag_swt (a : AS) (x : (Nat → Nat)) : a_ag (a_set_wt a x) = a_ag a := rfl
theorem a_gd_swt (a : AS) (x : (Nat → Nat)) : a_gd (a_set_wt a x) = a_gd a := rfl
theorem a_tm_swt (a : AS) (x : (Nat → Nat)) : a_tm (a_set_wt a x) = a_tm a := rfl
theorem a_ch_swt (a : AS) (x : (Nat → Nat)) : a_ch (a_set_wt a x) = a_ch a := rfl
theorem a_lv_swt (a : AS) (x : (Nat → Nat)) : a_lv (a_set_wt a x) = a_lv a := rfl
theorem a_wy_swt (a : AS) (x : (Nat → Nat)) : a_wy (a_set_wt a x) = a_wy a := rfl
theorem a_n_sco (a : AS) (x : (Nat → Nat)) : a_n (a_set_co a x) = a_n a := rfl
theorem a_y_sco (a : AS) (x : (Nat → Nat)) : a_y (a_set_co a x) = a_y a := rfl
theorem a_l_sco (a : AS) (x : (Nat → Nat)) : a_l (a_set_co a x) = a_l a := rfl
theorem a_wt_sco (a : AS) (x : (Nat → Nat)) : a_wt (a_set_co a x) = a_wt a := rfl
theorem a_co_sco (a : AS) (x : (Nat → Nat)) : a_co (a_set_co a x) = x := rfl
theorem a_kd_sco (a : AS) (x : (Nat → Nat)) : a_kd (a_set_co a x) = a_kd a := rfl
theorem a_ag_sco (a : AS) (x : (Nat → Nat)) : a_ag (a_set_co a x) = a_ag a := rfl
theorem a_gd_sco (a : AS) (x : (Nat → Nat)) : a_gd (a_set_co a x) = a_gd a := rfl
theorem a_tm_sco (a : AS) (x : (Nat → Nat)) : a_tm (a_set_co a x) = a_tm a := rfl
theorem a_ch_sco (a : AS) (x : (Nat → Nat)) : a_ch (a_set_co a x) = a_ch a := rfl
theorem a_lv_sco (a : AS) (x : (Nat → Nat)) : a_lv (a_set_co a x) = a_lv a := rfl
theorem a_wy_sco (a : AS) (x : (Nat → Nat)) : a_wy (a_set_co a x) = a_wy a := rfl
theorem a_n_skd (a : AS) (x : (Nat → Nat)) : a_n (a_set_kd a x) = a_n a := rfl
theorem a_y_skd (a : AS) (x : (Nat → Nat)) : a_y (a_set_kd a x) = a_y a := rfl
theorem a_l_skd (a : AS) (x : (Nat → Nat)) : a_l (a_set_kd a x) = a_l a := rfl
theorem a_wt_skd (a : AS) (x : (Nat → Nat)) : a_wt (a_set_kd a x) = a_wt a := rfl
theorem a_co_skd (a : AS) (x : (Nat → Nat)) : a_co (a_set_kd a x) = a_co a := rfl
theorem a_kd_skd (a : AS) (x : (Nat → Nat)) : a_kd (a_set_kd a x) = x := rfl
theorem a_ag_skd (a : AS) (x : (Nat → Nat)) : a_ag (a_set_kd a x) = a_ag a := rfl
theorem a_gd_skd (a : AS) (x : (Nat → Nat)) : a_gd (a_set_kd a x) = a_gd a := rfl
theorem a_tm_skd (a : AS) (x : (Nat → Nat)) : a_tm (a_set_kd a x) = a_tm a := rfl
theorem a_ch_skd (a : AS) (x : (Nat → Nat)) : a_ch (a_set_kd a x) = a_ch a := rfl
theorem a_lv_skd (a : AS) (x : (Nat → Nat)) : a_lv (a_set_kd a x) = a_lv a := rfl
theorem a_wy_skd (a : AS) (x : (Nat → Nat)) : a_wy (a_set_kd a x) = a_wy a := rfl
theorem a_n_sag (a : AS) (x : (Nat → Nat)) : a_n (a_set_ag a x) = a_n a := rfl
theorem a_y_sag (a : AS) (x : (Nat → Nat)) : a_y (a_set_ag a x) = a_y a := rfl
theorem a_l_sag (a : AS) (x : (Nat → Nat)) : a_l (a_set_ag a x) = a_l a := rfl
theorem a_wt_sag (a : AS) (x : (Nat → Nat)) : a_wt (a_set_ag a x) = a_wt a := rfl
theorem a_co_sag (a : AS) (x : (Nat → Nat)) : a_co (a_set_ag a x) = a_co a := rfl
theorem a_kd_sag (a : AS) (x : (Nat → Nat)) : a_kd (a_set_ag a x) = a_kd a := rfl
theorem a_ag_sag (a : AS) (x : (Nat → Nat)) : a_ag (a_set_ag a x) = x := rfl
theorem a_gd_sag (a : AS) (x : (Nat → Nat)) : a_gd (a_set_ag a x) = a_gd a := rfl
theorem a_tm_sag (a : AS) (x : (Nat → Nat)) : a_tm (a_set_ag a x) = a_tm a := rfl
theorem a_ch_sag (a : AS) (x : (Nat → Nat)) : a_ch (a_set_ag a x) = a_ch a := rfl
theorem a_lv_sag (a : AS) (x : (Nat → Nat)) : a_lv (a_set_ag a x) = a_lv a := rfl
theorem a_wy_sag (a : AS) (x : (Nat → Nat)) : a_wy (a_set_ag a x) = a_wy a := rfl
theorem a_n_sgd (a : AS) (x : (Nat → Nat)) : a_n (a_set_gd a x) = a_n a := rfl
theorem a_y_sgd (a : AS) (x : (Nat → Nat)) : a_y (a_set_gd a x) = a_y a := rfl
theorem a_l_sgd (a : AS) (x : (Nat → Nat)) : a_l (a_set_gd a x) = a_l a := rfl
theorem a_wt_sgd (a : AS) (x : (Nat → Nat)) : a_wt (a_set_gd a x) = a_wt a := rfl
theorem a_co_sgd (a : AS) (x : (Nat → Nat)) : a_co (a_set_gd a x) = a_co a := rfl
theorem a_kd_sgd (a : AS) (x : (Nat → Nat)) : a_kd (a_set_gd a x) = a_kd a := rfl
theorem a_ag_sgd (a : AS) (x : (Nat → Nat)) : a_ag (a_set_gd a x) = a_ag a := rfl
theorem a_gd_sgd (a : AS) (x : (Nat → Nat)) : a_gd (a_set_gd a x) = x := rfl
theorem a_tm_sgd (a : AS) (x : (Nat → Nat)) : a_tm (a_set_gd a x) = a_tm a := rfl
theorem a_ch_sgd (a : AS) (x : (Nat → Nat)) : a_ch (a_set_gd a x) = a_ch a := rfl
theorem a_lv_sgd (a : AS) (x : (Nat → Nat)) : a_lv (a_set_gd a x) = a_lv a := rfl
theorem a_wy_sgd (a : AS) (x : (Nat → Nat)) : a_wy (a_set_gd a x) = a_wy a := rfl
theorem a_n_stm (a : AS) (x : (Nat → Nat)) : a_n (a_set_tm a x) = a_n a := rfl
theorem a_y_stm (a : AS) (x : (Nat → Nat)) : a_y (a_set_tm a x) = a_y a := rfl
theorem a_l_stm (a : AS) (x : (Nat → Nat)) : a_l (a_set_tm a x) = a_l a := rfl
theorem a_wt_stm (a : AS) (x : (Nat → Nat)) : a_wt (a_set_tm a x) = a_wt a := rfl
theorem a_co_stm (a : AS) (x : (Nat → Nat)) : a_co (a_set_tm a x) = a_co a := rfl
theorem a_kd_stm (a : AS) (x : (Nat → Nat)) : a_kd (a_set_tm a x) = a_kd a := rfl
theorem a_ag_stm (a : AS) (x : (Nat → Nat)) : a_ag (a_set_tm a x) = a_ag a := rfl
theorem a_gd_stm (a : AS) (x : (Nat → Nat)) : a_gd (a_set_tm a x) = a_gd a := rfl
theorem a_tm_stm (a : AS) (x : (Nat → Nat)) : a_tm (a_set_tm a x) = x := rfl
theorem a_ch_stm (a : AS) (x : (Nat → Nat)) : a_ch (a_set_tm a x) = a_ch a := rfl
theorem a_lv_stm (a : AS) (x : (Nat → Nat)) : a_lv (a_set_tm a x) = a_lv a := rfl
theorem a_wy_stm (a : AS) (x : (Nat → Nat)) : a_wy (a_set_tm a x) = a_wy a := rfl
theorem a_n_sch (a : AS) (x : (Nat → Nat)) : a_n (a_set_ch a x) = a_n a := rfl
theorem a_y_sch (a : AS) (x : (Nat → Nat)) : a_y (a_set_ch a x) = a_y a := rfl
theorem a_l_sch (a : AS) (x : (Nat → Nat)) : a_l (a_set_ch a x) = a_l a := rfl
theorem a_wt_sch (a : AS) (x : (Nat → Nat)) : a_wt (a_set_ch a x) = a_wt a := rfl
theorem a_co_sch (a : AS) (x : (Nat → Nat)) : a_co (a_set_ch a x) = a_co a := rfl
theorem a_kd_sch (a : AS) (x : (Nat → Nat)) : a_kd (a_set_ch a x) = a_kd a := rfl
theorem a_ag_sch (a : AS) (x : (Nat → Nat)) : a_ag (a_set_ch a x) = a_ag a := rfl
theorem a_gd_sch (a : AS) (x : (Nat → Nat)) : a_gd (a_set_ch a x) = a_gd a := rfl
theorem a_tm_sch (a : AS) (x : (Nat → Nat)) : a_tm (a_set_ch a x) = a_tm a := rfl
theorem a_ch_sch (a : AS) (x : (Nat → Nat)) : a_ch (a_set_ch a x) = x := rfl
theorem a_lv_sch (a : AS) (x : (Nat → Nat)) : a_lv (a_set_ch a x) = a_lv a := rfl
theorem a_wy_sch (a : AS) (x : (Nat → Nat)) : a_wy (a_set_ch a x) = a_wy a := rfl
theorem a_n_slv (a : AS) (x : (Nat → Bool)) : a_n (a_set_lv a x) = a_n a := rfl
theorem a_y_slv (a : AS) (x : (Nat → Bool)) : a_y (a_set_lv a x) = a_y a := rfl
theorem a_l_slv (a : AS) (x : (Nat → Bool)) : a_l (a_set_lv a x) = a_l a := rfl
theorem a_wt_slv (a : AS) (x : (Nat → Bool)) : a_wt (a_set_lv a x) = a_wt a := rfl
theorem a_co_slv (a : AS) (x : (Nat → Bool)) : a_co (a_set_lv a x) = a_co a := rfl
theorem a_kd_slv (a : AS) (x : (Nat → Bool)) : a_kd (a_set_lv a x) = a_kd a := rfl
theorem a_ag_slv (a : AS) (x : (Nat → Bool)) : a_ag (a_set_lv a x) = a_ag a := rfl
theorem a_gd_slv (a : AS) (x : (Nat → Bool)) : a_gd (a_set_lv a x) = a_gd a := rfl
theorem a_tm_slv (a : AS) (x : (Nat → Bool)) : a_tm (a_set_lv a x) = a_tm a := rfl
theorem a_ch_slv (a : AS) (x : (Nat → Bool)) : a_ch (a_set_lv a x) = a_ch a := rfl
theorem a_lv_slv (a : AS) (x : (Nat → Bool)) : a_lv (a_set_lv a x) = x := rfl
theorem a_wy_slv (a : AS) (x : (Nat → Bool)) : a_wy (a_set_lv a x) = a_wy a := rfl
theorem a_n_swy (a : AS) (x : (Nat → Nat → Nat)) : a_n (a_set_wy a x) = a_n a := rfl
theorem a_y_swy (a : AS) (x : (Nat → Nat → Nat)) : a_y (a_set_wy a x) = a_y a := rfl
theorem a_l_swy (a : AS) (x : (Nat → Nat → Nat)) : a_l (a_set_wy a x) = a_l a := rfl
theorem a_wt_swy (a : AS) (x : (Nat → Nat → Nat)) : a_wt (a_set_wy a x) = a_wt a := rfl
theorem a_co_swy (a : AS) (x : (Nat → Nat → Nat)) : a_co (a_set_wy a x) = a_co a := rfl
theorem a_kd_swy (a : AS) (x : (Nat → Nat → Nat)) : a_kd (a_set_wy a x) = a_kd a := rfl
theorem a_ag_swy (a : AS) (x : (Nat → Nat → Nat)) : a_ag (a_set_wy a x) = a_ag a := rfl
theorem a_gd_swy (a : AS) (x : (Nat → Nat → Nat)) : a_gd (a_set_wy a x) = a_gd a := rfl
theorem a_tm_swy (a : AS) (x : (Nat → Nat → Nat)) : a_tm (a_set_wy a x) = a_tm a := rfl
theorem a_ch_swy (a : AS) (x : (Nat → Nat → Nat)) : a_ch (a_set_wy a x) = a_ch a := rfl
theorem a_lv_swy (a : AS) (x : (Nat → Nat → Nat)) : a_lv (a_set_wy a x) = a_lv a := rfl
theorem a_wy_swy (a : AS) (x : (Nat → Nat → Nat)) : a_wy (a_set_wy a x) = x := rfl
def same (a : AS) (i j m : Nat) : Bool := a_wy a i m == a_wy a j m || (m == 8 && a_kd a j == 4)
def like (a : AS) (i j : Nat) : Nat := sm (fun m => if same a i j m then a_wt a m else 0) 9 + (if a_l a = 1 ∧ a_ch a i = j + 1 then 5 else 0)
/-- the heir of i, but b, among the first k -/
def hb (a : AS) (i b : Nat) : Nat → Nat
  | 0 => 0
  | k + 1 => if k = i ∨ k = b ∨ a_lv a k = false then hb a i b k else if hb a i b k = 0 ∨ like a i (hb a i b k - 1) < like a i k ∨ (like a i (hb a i b k - 1) = like a i k ∧ a_ag a (hb a i b k - 1) < a_ag a k) then k + 1 else hb a i b k
def heir (a : AS) (i : Nat) : Nat := hb a i i (a_n a)
/-- the richest living one among the first k, but i (0: none is left out; i + 1) -/
def rb (a : AS) (i : Nat) : Nat → Nat
  | 0 => 0
  | k + 1 => if k + 1 = i ∨ a_lv a k = false then rb a i k else if rb a i k = 0 ∨ a_gd a (rb a i k - 1) < a_gd a k then k + 1 else rb a i k
def kidOf (a : AS) (i : Nat) : Nat := if a_ch a i = 0 ∨ a_lv a (a_ch a i - 1) = false then 0 else a_ch a i
def aim (a : AS) (i : Nat) : Nat := if a_kd a i = 1 ∨ a_kd a i = 4 then rb a (i + 1) (a_n a) else if a_kd a i = 3 then kidOf a i else if a_kd a i = 5 then (if kidOf a i = 0 then heir a i else kidOf a i) else 0
def Inv (a : AS) : Prop := a_n a ≤ 12 ∧ a_y a ≤ 9999 ∧ a_l a ≤ 2 ∧ (∀ m, m < 9 → a_wt a m ≤ 9 ∧ a_co a m ≤ 99) ∧ ∀ k, k < a_n a → a_kd a k ≤ 5 ∧ a_ag a k ≤ 120 ∧ a_gd a k ≤ 999999 ∧ 1 ≤ a_tm a k ∧ a_tm a k ≤ 120 ∧ a_ch a k ≤ a_n a ∧ ∀ m, m < 9 → a_wy a k m ≤ 3
/-- the reference's row holds it -/
def SR (a : AS) (s : Nat → Int32) : Prop := s 0 = nI (a_n a) ∧ s 1 = nI (a_y a) ∧ s 2 = nI (a_l a) ∧ (∀ m, m < 9 → s (3 + m) = nI (a_wt a m) ∧ s (12 + m) = nI (a_co a m)) ∧ ∀ k, k < a_n a → s (21 + 15 * k) = nI (a_kd a k) ∧ s (21 + 15 * k + 1) = nI (a_ag a k) ∧ s (21 + 15 * k + 2) = nI (a_gd a k) ∧ s (21 + 15 * k + 3) = nI (a_tm a k) ∧ s (21 + 15 * k + 4) = enc (a_ch a k) ∧ s (21 + 15 * k + 5) = nI (if a_lv a k then 1 else 0) ∧ ∀ m, m < 9 → s (21 + 15 * k + (6 + m)) = nI (a_wy a k m)
theorem like_le {a : AS} (h : Inv a) (i j : Nat) : like a i j ≤ 86 := by
  have h1 : sm (fun m => if same a i j m then a_wt a m else 0) 9 ≤ 9 * 9 := sm_le (fun k hk => by
    by_cases c : same a i j k = true
    · simp only [c, if_true]; exact (h.2.2.2.1 k hk).1
    · simp only [c]; exact Nat.zero_le _)
  unfold like
  by_cases c : a_l a = 1 ∧ a_ch a i = j + 1
  · rw [if_pos c]; omega
  · rw [if_neg c]; omega
theorem hb_le (a : AS) (i b : Nat) : ∀ k, hb a i b k ≤ k
  | 0 => Nat.le_refl _
  | k + 1 => by
    have ih := hb_le a i b k
    rw [hb]
    split
    · omega
    · split <;> omega
theorem rb_le (a : AS) (i : Nat) : ∀ k, rb a i k ≤ k
  | 0 => Nat.le_refl _
  | k + 1 => by
    have ih := rb_le a i k
    rw [rb]
    split
    · omega
    · split <;> omega
/-! numbers: everything is nI -/
theorem lit_nI (n : Nat) : (OfNat.ofNat n : Int32) = nI n := rfl
theorem rd_nI {f : Nat → Int32} {n k : Nat} (h : k < n) (hn : n < 2147483648) : rd f n (nI k) = some (f k) := by
  unfold rd
  rw [nI_toInt (by omega), if_pos (by omega), nI_clamp (by omega)]
theorem rdL_nI {f : Nat → Int64} {n k : Nat} (h : k < n) (hn : n < 2147483648) : rdL f n (nI k) = some (f k) := by
  unfold rdL
  rw [nI_toInt (by omega), if_pos (by omega), nI_clamp (by omega)]
theorem ck_nI {n k : Nat} (h : k < n) (hn : n < 2147483648) : ck (nI k) n = some () := by
  unfold ck
  rw [nI_toInt (by omega), if_pos (by omega)]
theorem some_bind' {α β : Type} (a : α) (k : α → Option β) : (some a).bind k = k a := rfl
theorem bd2_some {α β γ : Type} (a : α) (b : β) (k : α → β → Option γ) : bd2 (some (a, b)) k = k a b := rfl
theorem bd3_some {α β γ δ : Type} (a : α) (b : β) (c : γ) (k : α → β → γ → Option δ) : bd3 (some (a, b, c)) k = k a b c := rfl
theorem lt_eq {α β : Type} (a : α) (k : α → β) : lt a k = k a := rfl
theorem nI_le_iff {a b : Nat} (ha : a < 2147483648) (hb : b < 2147483648) : (nI a ≤ nI b) = (a ≤ b) := propext (nI_leI ha hb)
theorem nI_lt_iff {a b : Nat} (ha : a < 2147483648) (hb : b < 2147483648) : (nI a < nI b) = (a < b) := propext (nI_ltI ha hb)
theorem nI_eq_iff {a b : Nat} (ha : a < 2147483648) (hb : b < 2147483648) : (nI a = nI b) = (a = b) := propext (nI_eq ha hb)
theorem nI_addn (a b : Nat) : nI a + nI b = nI (a + b) := nI_add a b
theorem nI_muln (a b : Nat) : nI a * nI b = nI (a * b) := pk_mul a b
theorem fa_lt' (a b : Int32) : a < b ↔ a.toInt < b.toInt := Int32.lt_iff_toInt_lt
theorem fa_le' (a b : Int32) : a ≤ b ↔ a.toInt ≤ b.toInt := Int32.le_iff_toInt_le
theorem m1_lt (k : Nat) (hk : k < 2147483648) : (-1 : Int32) < nI k := by
  rw [fa_lt', nI_toInt (by omega)]
  show (-1 : Int) < _
  omega
theorem nI_ne_m1 (k : Nat) (hk : k < 2147483648) : ¬ nI k = -1 := by
  intro e
  have h := congrArg Int32.toInt e
  rw [nI_toInt (by omega)] at h
  have h2 : (-1 : Int32).toInt = -1 := by decide
  omega
