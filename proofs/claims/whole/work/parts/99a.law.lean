/-! THE CLAIM OUT OF ONE WALK OF THE LAW'S BODY. Your part is whole_start (and what it stands on); all else here is the same for every law, but numbers. -/
def R_law : String := "LikestHeirLaw"
def lw_P (b : Addr) (xs : List Int32) (args : Array Value) (s : State) : Prop := args = #[.ref b] ∧ s.IntsAt b xs ∧ xs.length ≤ 3072 ∧ (Jvm.Cond.and given_1 narrow_1).before args s = true
def lw_Q (_ : Array Value) (s : State) (o : Outcome) (t : State) : Prop := o = .returned (some (.int 1)) ∧ Framed s o t [] 600000 7302250
def lw_Z (below : List Frame) (a : Array Value) (s : State) : State → Prop := fun t => ∃ o, t.status = .running ∧ Ended t below o ∧ lw_Q a s o t
/-- the law's own end, with 1 on the stack, nothing written that was there before, its room as the claim has it -/
theorem lw_ret {p : Program} {l : Launch} {e : Env} {s : State} {m : MethodId} {below : List Frame} {meth : Method} {c : Code} {b : Nat} (hx : p.tables.exec = Jvm.exec) (hb : c.code = code) (hr : meth.sig.returnType = ret) (hlocks : meth.locks = false) {pc : Nat} {H : Heap} {ls : Array Slot} (hdg : decode code pc = .ok (.ireturn, 1)) : W p l e room_1 s m #[Value.ref b] below meth c H [] 600000 7302250 (lw_Z below #[Value.ref b] s) (F0 m pc ls [.int 1]) := by
  intro T hT X
  obtain ⟨fs, hret, hrun, hended, hW, hframe⟩ := X.leave (v := some (.int 1)) (hlocks := hlocks) (fun h => by rw [hr] at h; cases h)
  have hmeth' : T.vm.method? m = some meth := X.method'
  refine ⟨T.setFrames fs, ?_, .returned (some (.int 1)), hrun, hended, rfl, ⟨_, rfl⟩, hW, hframe⟩
  jvm_step X.here [X.here.top, hx, hb, hdg, hmeth', hr, ret, narrow_b1]
  (try refine ⟨rfl, ?_⟩); (try refine ⟨rfl, ?_⟩)
  first | (intro acts; rw [hret _ acts rfl rfl rfl]) | rw [hret _ _ rfl rfl rfl]
  exact Steps.refl _
/-- what holds at the law's entry: the machine, the code, the tables' words (any of lw_tbl by 'hts w (by decide +kernel)'), the script of L ints xs at the cell b, what the Statement gives of the start (any of its parts by flat_of_before) -/
def lw_At (p : Program) (s : State) (m : MethodId) (meth : Method) (c : Code) (b L : Nat) (xs : Nat → Int32) : Prop :=
  p.tables.exec = Jvm.exec ∧ c.code = code ∧ meth.sig.returnType = ret ∧ c.maxLocals = 4 ∧ s.vm.findClass R_law = some m.cls ∧ (∀ w ∈ lw_tbl, w.before #[Value.ref b] s = true) ∧ va_X b L xs s s.heap ∧ b < s.heap.size ∧ meth.locks = false ∧ (Jvm.Cond.and given_1 narrow_1).before #[Value.ref b] s = true
section LAWL
variable {p : Program} {l : Launch} {e : Env} {R : Room} {s : State} {args : Array Value} {m : MethodId} {below : List Frame} {meth : Method} {c : Code} {b L N : Nat} {xs : Nat → Int32} {g : gE} {A : Nat → Prop} {q q2 : Nat → Nat} {H : Heap} {locs : List Loc} {ls : Array Slot} {cells slots pc i : Nat} {Q : State → Prop} {st : List Value} {w : va_W}
def LC (p : Program) (s : State) (m : MethodId) (c : Code) (b L : Nat) (xs : Nat → Int32) (g : gE) (A : Nat → Prop) : Prop := Cx p m c code 4 s #[Value.ref b] RL g A ∧ va_X b L xs s s.heap ∧ b < s.heap.size ∧ ¬ A b
theorem lw_arg (C : LC p s m c b L xs g A) (hL : L ≤ 3072) (hw : Wd g A w s H locs) {r1 r2 : Value} (hl : lv_has ls 4 [(0, .ref b), (1, r1), (2, r2), (3, .int (nI i))]) (k : Nat) {kc : Int} (hi : i + k < L) (hk : Int32.ofInt kc = nI k)
    (d1 : decode code pc = .ok (.aload_n 0, 1)) (d2 : decode code (pc + 1) = .ok (.iload_n 3, 1)) (d3 : decode code (pc + 2) = .ok (.iconst kc, 1)) (d4 : decode code (pc + 3) = .ok (.iadd, 1)) (d5 : decode code (pc + 4) = .ok (.iaload, 1))
    (kk : W p l e R s m #[Value.ref b] below meth c H locs cells slots Q (F0 m (pc + 5) ls (.int (xs (i + k)) :: st))) : W p l e R s m #[Value.ref b] below meth c H locs cells slots Q (F0 m pc ls st) := by
  have hx := C.1.1.1
  have hb := C.1.1.2.1
  refine lv_aload_n hx hb d1 rfl (lv_at hl 0 rfl) ?_
  refine lv_iload_n hx hb d2 rfl (lv_at hl 3 rfl) ?_
  refine lv_iconst hx hb d3 hk ?_
  refine lv_iadd hx hb d4 ?_
  rw [nI_addn]
  refine va_sld hx hb C.2.1 C.2.2.1 C.2.2.2 hw.2.2 (vp_in_nI hi (by omega)) d5 ?_
  rw [nI_clamp (by omega)]
  exact kk
theorem cl_L_13 (ht : ∀ w ∈ TB, w.before args s = true) (hR : rm_X4_mark.frames + 1 ≤ R.frames ∧ 8 + (4 + 11) + rm_X4_mark.locals ≤ R.locals) : CallW R s args RL RX4 13 yX4_mark cX4_mark 4 (some .int) (Cond.code yX4_mark cX4_mark 4 (some .int) :: TB) rm_X4_mark 0 0 3 := cw_V 3 ht tw_1_197 tw_1_198 tw_1_199 tw_1_1 tw_1_200 rfl rfl (by decide +kernel) hR
theorem cl_L_17 (ht : ∀ w ∈ TB, w.before args s = true) (hR : rm_X5_mark.frames + 1 ≤ R.frames ∧ 8 + (4 + 11) + rm_X5_mark.locals ≤ R.locals) : CallW R s args RL RX5 17 yX5_mark cX5_mark 4 (some .int) (Cond.code yX5_mark cX5_mark 4 (some .int) :: TB) rm_X5_mark 0 0 3 := cw_V 3 ht tw_4_67 tw_4_68 tw_4_69 tw_1_7 tw_4_70 rfl rfl (by decide +kernel) hR
theorem cl_L_18 (ht : ∀ w ∈ TB, w.before args s = true) (hR : rm_X4_let.frames + 1 ≤ R.frames ∧ 8 + (3 + 11) + rm_X4_let.locals ≤ R.locals) : CallW R s args RL RX4 18 yX4_let cX4_let 3 (some .int) (Cond.code yX4_let cX4_let 3 (some .int) :: TB) rm_X4_let 0 0 1 := cw_V 1 ht tw_1_215 tw_1_216 tw_1_217 tw_1_1 tw_1_218 rfl rfl (by decide +kernel) hR
theorem cl_L_22 (ht : ∀ w ∈ TB, w.before args s = true) (hR : rm_X5_let.frames + 1 ≤ R.frames ∧ 8 + (2 + 11) + rm_X5_let.locals ≤ R.locals) : CallW R s args RL RX5 22 yX5_let cX5_let 2 (some .int) (Cond.code yX5_let cX5_let 2 (some .int) :: TB) rm_X5_let 0 0 1 := cw_V 1 ht tw_4_88 tw_4_89 tw_4_90 tw_1_7 tw_4_91 rfl rfl (by decide +kernel) hR
theorem cl_L_23 (ht : ∀ w ∈ TB, w.before args s = true) (hR : rm_X4_person.frames + 1 ≤ R.frames ∧ 8 + (4 + 11) + rm_X4_person.locals ≤ R.locals) : CallW R s args RL RX4 23 yX4_person cX4_person 4 (some .int) (Cond.code yX4_person cX4_person 4 (some .int) :: TB) rm_X4_person 0 0 2 := cw_V 2 ht tw_1_219 tw_1_220 tw_1_221 tw_1_1 tw_1_222 rfl rfl (by decide +kernel) hR
theorem cl_L_27 (ht : ∀ w ∈ TB, w.before args s = true) (hR : rm_X5_person.frames + 1 ≤ R.frames ∧ 8 + (3 + 11) + rm_X5_person.locals ≤ R.locals) : CallW R s args RL RX5 27 yX5_person cX5_person 3 (some .int) (Cond.code yX5_person cX5_person 3 (some .int) :: TB) rm_X5_person 0 0 2 := cw_V 2 ht tw_4_93 tw_4_94 tw_4_95 tw_1_7 tw_4_96 rfl rfl (by decide +kernel) hR
theorem cl_L_28 (ht : ∀ w ∈ TB, w.before args s = true) (hR : rm_X4_of.frames + 1 ≤ R.frames ∧ 8 + (3 + 11) + rm_X4_of.locals ≤ R.locals) : CallW R s args RL RX4 28 yX4_of cX4_of 3 (some .int) (Cond.code yX4_of cX4_of 3 (some .int) :: TB) rm_X4_of 0 0 2 := cw_V 2 ht tw_1_231 tw_1_232 tw_1_233 tw_1_1 tw_1_234 rfl rfl (by decide +kernel) hR
theorem cl_L_31 (ht : ∀ w ∈ TB, w.before args s = true) (hR : rm_X5_of.frames + 1 ≤ R.frames ∧ 8 + (3 + 11) + rm_X5_of.locals ≤ R.locals) : CallW R s args RL RX5 31 yX5_of cX5_of 3 (some .int) (Cond.code yX5_of cX5_of 3 (some .int) :: TB) rm_X5_of 0 0 2 := cw_V 2 ht tw_4_108 tw_4_109 tw_4_110 tw_1_7 tw_4_111 rfl rfl (by decide +kernel) hR
theorem cl_L_32 (ht : ∀ w ∈ TB, w.before args s = true) (hR : rm_X4_set.frames + 1 ≤ R.frames ∧ 8 + (4 + 11) + rm_X4_set.locals ≤ R.locals) : CallW R s args RL RX4 32 yX4_set cX4_set 4 (some .int) (Cond.code yX4_set cX4_set 4 (some .int) :: TB) rm_X4_set 0 0 3 := cw_V 3 ht tw_2_23 tw_2_24 tw_2_25 tw_1_1 tw_2_26 rfl rfl (by decide +kernel) hR
theorem cl_L_35 (ht : ∀ w ∈ TB, w.before args s = true) (hR : rm_X5_set.frames + 1 ≤ R.frames ∧ 8 + (4 + 11) + rm_X5_set.locals ≤ R.locals) : CallW R s args RL RX5 35 yX5_set cX5_set 4 (some .int) (Cond.code yX5_set cX5_set 4 (some .int) :: TB) rm_X5_set 0 0 3 := cw_V 3 ht tw_4_149 tw_4_150 tw_4_151 tw_1_7 tw_4_152 rfl rfl (by decide +kernel) hR
theorem cl_L_36 (ht : ∀ w ∈ TB, w.before args s = true) (hR : rm_X4_way.frames + 1 ≤ R.frames ∧ 8 + (3 + 11) + rm_X4_way.locals ≤ R.locals) : CallW R s args RL RX4 36 yX4_way cX4_way 3 (some .int) (Cond.code yX4_way cX4_way 3 (some .int) :: TB) rm_X4_way 0 0 2 := cw_V 2 ht tw_2_40 tw_2_41 tw_2_42 tw_1_1 tw_2_43 rfl rfl (by decide +kernel) hR
theorem cl_L_39 (ht : ∀ w ∈ TB, w.before args s = true) (hR : rm_X5_way.frames + 1 ≤ R.frames ∧ 8 + (3 + 11) + rm_X5_way.locals ≤ R.locals) : CallW R s args RL RX5 39 yX5_way cX5_way 3 (some .int) (Cond.code yX5_way cX5_way 3 (some .int) :: TB) rm_X5_way 0 0 2 := cw_V 2 ht tw_4_162 tw_4_163 tw_4_164 tw_1_7 tw_4_165 rfl rfl (by decide +kernel) hR
theorem cl_L_40 (ht : ∀ w ∈ TB, w.before args s = true) (hR : rm_X4_be.frames + 1 ≤ R.frames ∧ 8 + (5 + 11) + rm_X4_be.locals ≤ R.locals) : CallW R s args RL RX4 40 yX4_be cX4_be 5 (some .int) (Cond.code yX4_be cX4_be 5 (some .int) :: TB) rm_X4_be 0 0 3 := cw_V 3 ht tw_2_47 tw_2_48 tw_2_49 tw_1_1 tw_2_50 rfl rfl (by decide +kernel) hR
theorem cl_L_43 (ht : ∀ w ∈ TB, w.before args s = true) (hR : rm_X5_be.frames + 1 ≤ R.frames ∧ 8 + (4 + 11) + rm_X5_be.locals ≤ R.locals) : CallW R s args RL RX5 43 yX5_be cX5_be 4 (some .int) (Cond.code yX5_be cX5_be 4 (some .int) :: TB) rm_X5_be 0 0 3 := cw_V 3 ht tw_4_166 tw_4_167 tw_4_168 tw_1_7 tw_4_169 rfl rfl (by decide +kernel) hR
theorem cl_L_44 (ht : ∀ w ∈ TB, w.before args s = true) (hR : rm_X4_turn.frames + 1 ≤ R.frames ∧ 8 + (3 + 11) + rm_X4_turn.locals ≤ R.locals) : CallW R s args RL RX4 44 yX4_turn cX4_turn 3 (some .int) (Cond.code yX4_turn cX4_turn 3 (some .int) :: TB) rm_X4_turn 0 0 2 := cw_V 2 ht tw_2_57 tw_2_58 tw_2_59 tw_1_1 tw_2_60 rfl rfl (by decide +kernel) hR
theorem cl_L_47 (ht : ∀ w ∈ TB, w.before args s = true) (hR : rm_X5_turn.frames + 1 ≤ R.frames ∧ 8 + (3 + 11) + rm_X5_turn.locals ≤ R.locals) : CallW R s args RL RX5 47 yX5_turn cX5_turn 3 (some .int) (Cond.code yX5_turn cX5_turn 3 (some .int) :: TB) rm_X5_turn 0 0 2 := cw_V 2 ht tw_4_171 tw_4_172 tw_4_173 tw_1_7 tw_4_174 rfl rfl (by decide +kernel) hR
theorem cl_L_48 (ht : ∀ w ∈ TB, w.before args s = true) (hR : rm_X4_as.frames + 1 ≤ R.frames ∧ 8 + (3 + 11) + rm_X4_as.locals ≤ R.locals) : CallW R s args RL RX4 48 yX4_as cX4_as 3 (some .int) (Cond.code yX4_as cX4_as 3 (some .int) :: TB) rm_X4_as 0 0 2 := cw_V 2 ht tw_2_61 tw_2_62 tw_2_63 tw_1_1 tw_2_64 rfl rfl (by decide +kernel) hR
theorem cl_L_51 (ht : ∀ w ∈ TB, w.before args s = true) (hR : rm_X5_as.frames + 1 ≤ R.frames ∧ 8 + (3 + 11) + rm_X5_as.locals ≤ R.locals) : CallW R s args RL RX5 51 yX5_as cX5_as 3 (some .int) (Cond.code yX5_as cX5_as 3 (some .int) :: TB) rm_X5_as 0 0 2 := cw_V 2 ht tw_4_175 tw_4_176 tw_4_177 tw_1_7 tw_4_178 rfl rfl (by decide +kernel) hR
theorem cl_L_52 (ht : ∀ w ∈ TB, w.before args s = true) (hR : rm_X4_like.frames + 1 ≤ R.frames ∧ 8 + (3 + 11) + rm_X4_like.locals ≤ R.locals) : CallW R s args RL RX4 52 yX4_like cX4_like 3 (some .int) (Cond.code yX4_like cX4_like 3 (some .int) :: TB) rm_X4_like 0 0 2 := cw_V 2 ht tw_2_71 tw_2_72 tw_2_73 tw_1_1 tw_2_74 rfl rfl (by decide +kernel) hR
theorem cl_L_55 (ht : ∀ w ∈ TB, w.before args s = true) (hR : rm_X5_like.frames + 1 ≤ R.frames ∧ 8 + (3 + 11) + rm_X5_like.locals ≤ R.locals) : CallW R s args RL RX5 55 yX5_like cX5_like 3 (some .int) (Cond.code yX5_like cX5_like 3 (some .int) :: TB) rm_X5_like 0 0 2 := cw_V 2 ht tw_4_183 tw_4_184 tw_4_185 tw_1_7 tw_4_186 rfl rfl (by decide +kernel) hR
theorem cl_L_56 (ht : ∀ w ∈ TB, w.before args s = true) (hR : rm_X4_same.frames + 1 ≤ R.frames ∧ 8 + (3 + 11) + rm_X4_same.locals ≤ R.locals) : CallW R s args RL RX4 56 yX4_same cX4_same 3 (some .int) (Cond.code yX4_same cX4_same 3 (some .int) :: TB) rm_X4_same 0 0 2 := cw_V 2 ht tw_2_76 tw_2_77 tw_2_78 tw_1_1 tw_2_79 rfl rfl (by decide +kernel) hR
theorem cl_L_59 (ht : ∀ w ∈ TB, w.before args s = true) (hR : rm_X5_same.frames + 1 ≤ R.frames ∧ 8 + (5 + 11) + rm_X5_same.locals ≤ R.locals) : CallW R s args RL RX5 59 yX5_same cX5_same 5 (some .int) (Cond.code yX5_same cX5_same 5 (some .int) :: TB) rm_X5_same 0 0 2 := cw_V 2 ht tw_4_187 tw_4_188 tw_4_189 tw_1_7 tw_4_190 rfl rfl (by decide +kernel) hR
theorem cl_L_60 (ht : ∀ w ∈ TB, w.before args s = true) (hR : rm_X4_heir.frames + 1 ≤ R.frames ∧ 8 + (3 + 11) + rm_X4_heir.locals ≤ R.locals) : CallW R s args RL RX4 60 yX4_heir cX4_heir 3 (some .int) (Cond.code yX4_heir cX4_heir 3 (some .int) :: TB) rm_X4_heir 0 0 1 := cw_V 1 ht tw_2_87 tw_2_88 tw_2_89 tw_1_1 tw_2_90 rfl rfl (by decide +kernel) hR
theorem cl_L_63 (ht : ∀ w ∈ TB, w.before args s = true) (hR : rm_X5_heir.frames + 1 ≤ R.frames ∧ 8 + (3 + 11) + rm_X5_heir.locals ≤ R.locals) : CallW R s args RL RX5 63 yX5_heir cX5_heir 3 (some .int) (Cond.code yX5_heir cX5_heir 3 (some .int) :: TB) rm_X5_heir 0 0 1 := cw_V 1 ht tw_4_191 tw_4_192 tw_4_193 tw_1_7 tw_4_194 rfl rfl (by decide +kernel) hR
theorem cl_L_64 (ht : ∀ w ∈ TB, w.before args s = true) (hR : rm_X4_heirOf.frames + 1 ≤ R.frames ∧ 8 + (2 + 11) + rm_X4_heirOf.locals ≤ R.locals) : CallW R s args RL RX4 64 yX4_heirOf cX4_heirOf 2 (some .int) (Cond.code yX4_heirOf cX4_heirOf 2 (some .int) :: TB) rm_X4_heirOf 0 0 1 := cw_V 1 ht tw_2_93 tw_2_94 tw_2_95 tw_1_1 tw_2_96 rfl rfl (by decide +kernel) hR
theorem cl_L_67 (ht : ∀ w ∈ TB, w.before args s = true) (hR : rm_X5_heirOf.frames + 1 ≤ R.frames ∧ 8 + (2 + 11) + rm_X5_heirOf.locals ≤ R.locals) : CallW R s args RL RX5 67 yX5_heirOf cX5_heirOf 2 (some .int) (Cond.code yX5_heirOf cX5_heirOf 2 (some .int) :: TB) rm_X5_heirOf 0 0 1 := cw_V 1 ht tw_4_196 tw_4_197 tw_4_198 tw_1_7 tw_4_199 rfl rfl (by decide +kernel) hR
theorem cl_L_68 (ht : ∀ w ∈ TB, w.before args s = true) (hR : rm_X4_watched.frames + 1 ≤ R.frames ∧ 8 + (2 + 11) + rm_X4_watched.locals ≤ R.locals) : CallW R s args RL RX4 68 yX4_watched cX4_watched 2 (some .int) (Cond.code yX4_watched cX4_watched 2 (some .int) :: TB) rm_X4_watched 0 0 1 := cw_V 1 ht tw_2_101 tw_2_102 tw_2_103 tw_1_1 tw_2_104 rfl rfl (by decide +kernel) hR
theorem cl_L_71 (ht : ∀ w ∈ TB, w.before args s = true) (hR : rm_X5_watched.frames + 1 ≤ R.frames ∧ 8 + (4 + 11) + rm_X5_watched.locals ≤ R.locals) : CallW R s args RL RX5 71 yX5_watched cX5_watched 4 (some .int) (Cond.code yX5_watched cX5_watched 4 (some .int) :: TB) rm_X5_watched 0 0 1 := cw_V 1 ht tw_4_204 tw_4_205 tw_4_206 tw_1_7 tw_4_207 rfl rfl (by decide +kernel) hR
theorem cl_L_72 (ht : ∀ w ∈ TB, w.before args s = true) (hR : rm_X4_changes.frames + 1 ≤ R.frames ∧ 8 + (3 + 11) + rm_X4_changes.locals ≤ R.locals) : CallW R s args RL RX4 72 yX4_changes cX4_changes 3 (some .int) (Cond.code yX4_changes cX4_changes 3 (some .int) :: TB) rm_X4_changes 0 0 1 := cw_V 1 ht tw_2_110 tw_2_111 tw_2_112 tw_1_1 tw_2_113 rfl rfl (by decide +kernel) hR
theorem cl_L_75 (ht : ∀ w ∈ TB, w.before args s = true) (hR : rm_X5_changes.frames + 1 ≤ R.frames ∧ 8 + (3 + 11) + rm_X5_changes.locals ≤ R.locals) : CallW R s args RL RX5 75 yX5_changes cX5_changes 3 (some .int) (Cond.code yX5_changes cX5_changes 3 (some .int) :: TB) rm_X5_changes 0 0 1 := cw_V 1 ht tw_4_208 tw_4_209 tw_4_210 tw_1_7 tw_4_211 rfl rfl (by decide +kernel) hR
theorem cl_L_76 (ht : ∀ w ∈ TB, w.before args s = true) (hR : rm_X4_years.frames + 1 ≤ R.frames ∧ 8 + (2 + 11) + rm_X4_years.locals ≤ R.locals) : CallW R s args RL RX4 76 yX4_years cX4_years 2 (some .int) (Cond.code yX4_years cX4_years 2 (some .int) :: TB) rm_X4_years 0 0 1 := cw_V 1 ht tw_2_122 tw_2_123 tw_2_124 tw_1_1 tw_2_125 rfl rfl (by decide +kernel) hR
theorem cl_L_79 (ht : ∀ w ∈ TB, w.before args s = true) (hR : rm_X5_years.frames + 1 ≤ R.frames ∧ 8 + (2 + 11) + rm_X5_years.locals ≤ R.locals) : CallW R s args RL RX5 79 yX5_years cX5_years 2 (some .int) (Cond.code yX5_years cX5_years 2 (some .int) :: TB) rm_X5_years 0 0 1 := cw_V 1 ht tw_4_220 tw_4_221 tw_4_222 tw_1_7 tw_4_223 rfl rfl (by decide +kernel) hR
theorem cl_L_80 (ht : ∀ w ∈ TB, w.before args s = true) (hR : rm_X4_dies.frames + 1 ≤ R.frames ∧ 8 + (2 + 11) + rm_X4_dies.locals ≤ R.locals) : CallW R s args RL RX4 80 yX4_dies cX4_dies 2 (some .int) (Cond.code yX4_dies cX4_dies 2 (some .int) :: TB) rm_X4_dies 0 0 1 := cw_V 1 ht tw_2_157 tw_2_158 tw_2_159 tw_1_1 tw_2_160 rfl rfl (by decide +kernel) hR
theorem cl_L_83 (ht : ∀ w ∈ TB, w.before args s = true) (hR : rm_X5_dies.frames + 1 ≤ R.frames ∧ 8 + (2 + 11) + rm_X5_dies.locals ≤ R.locals) : CallW R s args RL RX5 83 yX5_dies cX5_dies 2 (some .int) (Cond.code yX5_dies cX5_dies 2 (some .int) :: TB) rm_X5_dies 0 0 1 := cw_V 1 ht tw_5_11 tw_5_12 tw_5_13 tw_1_7 tw_5_14 rfl rfl (by decide +kernel) hR
theorem cl_L_84 (ht : ∀ w ∈ TB, w.before args s = true) (hR : rm_X4_now.frames + 1 ≤ R.frames ∧ 8 + (2 + 11) + rm_X4_now.locals ≤ R.locals) : CallW R s args RL RX4 84 yX4_now cX4_now 2 (some .int) (Cond.code yX4_now cX4_now 2 (some .int) :: TB) rm_X4_now 0 0 1 := cw_V 1 ht tw_2_162 tw_2_163 tw_2_164 tw_1_1 tw_2_165 rfl rfl (by decide +kernel) hR
theorem cl_L_87 (ht : ∀ w ∈ TB, w.before args s = true) (hR : rm_X5_now.frames + 1 ≤ R.frames ∧ 8 + (2 + 11) + rm_X5_now.locals ≤ R.locals) : CallW R s args RL RX5 87 yX5_now cX5_now 2 (some .int) (Cond.code yX5_now cX5_now 2 (some .int) :: TB) rm_X5_now 0 0 1 := cw_V 1 ht tw_5_15 tw_5_16 tw_5_17 tw_1_7 tw_5_18 rfl rfl (by decide +kernel) hR
theorem cl_L_88 (ht : ∀ w ∈ TB, w.before args s = true) (hR : rm_X4_on.frames + 1 ≤ R.frames ∧ 8 + (3 + 11) + rm_X4_on.locals ≤ R.locals) : CallW R s args RL RX4 88 yX4_on cX4_on 3 (some .int) (Cond.code yX4_on cX4_on 3 (some .int) :: TB) rm_X4_on 0 0 2 := cw_V 2 ht tw_2_170 tw_2_171 tw_2_172 tw_1_1 tw_2_173 rfl rfl (by decide +kernel) hR
theorem cl_L_91 (ht : ∀ w ∈ TB, w.before args s = true) (hR : rm_X5_on.frames + 1 ≤ R.frames ∧ 8 + (6 + 11) + rm_X5_on.locals ≤ R.locals) : CallW R s args RL RX5 91 yX5_on cX5_on 6 (some .int) (Cond.code yX5_on cX5_on 6 (some .int) :: TB) rm_X5_on 0 0 2 := cw_V 2 ht tw_5_23 tw_5_24 tw_5_25 tw_1_7 tw_5_26 rfl rfl (by decide +kernel) hR
theorem cl_L_92 (ht : ∀ w ∈ TB, w.before args s = true) (hR : rm_X4_living.frames + 1 ≤ R.frames ∧ 8 + (2 + 11) + rm_X4_living.locals ≤ R.locals) : CallW R s args RL RX4 92 yX4_living cX4_living 2 (some .int) (Cond.code yX4_living cX4_living 2 (some .int) :: TB) rm_X4_living 0 0 1 := cw_V 1 ht tw_2_181 tw_2_182 tw_2_183 tw_1_1 tw_2_184 rfl rfl (by decide +kernel) hR
theorem cl_L_95 (ht : ∀ w ∈ TB, w.before args s = true) (hR : rm_X5_living.frames + 1 ≤ R.frames ∧ 8 + (4 + 11) + rm_X5_living.locals ≤ R.locals) : CallW R s args RL RX5 95 yX5_living cX5_living 4 (some .int) (Cond.code yX5_living cX5_living 4 (some .int) :: TB) rm_X5_living 0 0 1 := cw_V 1 ht tw_5_42 tw_5_43 tw_5_44 tw_1_7 tw_5_45 rfl rfl (by decide +kernel) hR
theorem cl_L_96 (ht : ∀ w ∈ TB, w.before args s = true) (hR : rm_X4_rich.frames + 1 ≤ R.frames ∧ 8 + (3 + 11) + rm_X4_rich.locals ≤ R.locals) : CallW R s args RL RX4 96 yX4_rich cX4_rich 3 (some .int) (Cond.code yX4_rich cX4_rich 3 (some .int) :: TB) rm_X4_rich 0 0 1 := cw_V 1 ht tw_2_185 tw_2_186 tw_2_187 tw_1_1 tw_2_188 rfl rfl (by decide +kernel) hR
theorem cl_L_99 (ht : ∀ w ∈ TB, w.before args s = true) (hR : rm_X5_rich.frames + 1 ≤ R.frames ∧ 8 + (4 + 11) + rm_X5_rich.locals ≤ R.locals) : CallW R s args RL RX5 99 yX5_rich cX5_rich 4 (some .int) (Cond.code yX5_rich cX5_rich 4 (some .int) :: TB) rm_X5_rich 0 0 1 := cw_V 1 ht tw_5_50 tw_5_51 tw_5_52 tw_1_7 tw_5_53 rfl rfl (by decide +kernel) hR
theorem cl_L_100 (ht : ∀ w ∈ TB, w.before args s = true) (hR : rm_X4_when.frames + 1 ≤ R.frames ∧ 8 + (2 + 11) + rm_X4_when.locals ≤ R.locals) : CallW R s args RL RX4 100 yX4_when cX4_when 2 (some .int) (Cond.code yX4_when cX4_when 2 (some .int) :: TB) rm_X4_when 0 0 1 := cw_V 1 ht tw_2_190 tw_2_191 tw_2_192 tw_1_1 tw_2_193 rfl rfl (by decide +kernel) hR
theorem cl_L_103 (ht : ∀ w ∈ TB, w.before args s = true) (hR : rm_X5_when.frames + 1 ≤ R.frames ∧ 8 + (5 + 11) + rm_X5_when.locals ≤ R.locals) : CallW R s args RL RX5 103 yX5_when cX5_when 5 (some .int) (Cond.code yX5_when cX5_when 5 (some .int) :: TB) rm_X5_when 0 0 1 := cw_V 1 ht tw_5_54 tw_5_55 tw_5_56 tw_1_7 tw_5_57 rfl rfl (by decide +kernel) hR
theorem cl_L_104 (ht : ∀ w ∈ TB, w.before args s = true) (hR : rm_X4_gets.frames + 1 ≤ R.frames ∧ 8 + (2 + 11) + rm_X4_gets.locals ≤ R.locals) : CallW R s args RL RX4 104 yX4_gets cX4_gets 2 (some .int) (Cond.code yX4_gets cX4_gets 2 (some .int) :: TB) rm_X4_gets 0 0 1 := cw_V 1 ht tw_2_194 tw_2_195 tw_2_196 tw_1_1 tw_2_197 rfl rfl (by decide +kernel) hR
theorem cl_L_107 (ht : ∀ w ∈ TB, w.before args s = true) (hR : rm_X5_gets.frames + 1 ≤ R.frames ∧ 8 + (4 + 11) + rm_X5_gets.locals ≤ R.locals) : CallW R s args RL RX5 107 yX5_gets cX5_gets 4 (some .int) (Cond.code yX5_gets cX5_gets 4 (some .int) :: TB) rm_X5_gets 0 0 1 := cw_V 1 ht tw_5_58 tw_5_59 tw_5_60 tw_1_7 tw_5_61 rfl rfl (by decide +kernel) hR
theorem cl_L_108 (ht : ∀ w ∈ TB, w.before args s = true) (hR : rm_X4_change.frames + 1 ≤ R.frames ∧ 8 + (4 + 11) + rm_X4_change.locals ≤ R.locals) : CallW R s args RL RX4 108 yX4_change cX4_change 4 (some .int) (Cond.code yX4_change cX4_change 4 (some .int) :: TB) rm_X4_change 0 0 2 := cw_V 2 ht tw_2_198 tw_2_199 tw_2_200 tw_1_1 tw_2_201 rfl rfl (by decide +kernel) hR
theorem cl_L_111 (ht : ∀ w ∈ TB, w.before args s = true) (hR : rm_X5_change.frames + 1 ≤ R.frames ∧ 8 + (4 + 11) + rm_X5_change.locals ≤ R.locals) : CallW R s args RL RX5 111 yX5_change cX5_change 4 (some .int) (Cond.code yX5_change cX5_change 4 (some .int) :: TB) rm_X5_change 0 0 2 := cw_V 2 ht tw_5_62 tw_5_63 tw_5_64 tw_1_7 tw_5_65 rfl rfl (by decide +kernel) hR
theorem cl_L_112 (ht : ∀ w ∈ TB, w.before args s = true) (hR : rm_X4_fewest.frames + 1 ≤ R.frames ∧ 8 + (5 + 11) + rm_X4_fewest.locals ≤ R.locals) : CallW R s args RL RX4 112 yX4_fewest cX4_fewest 5 (some .int) (Cond.code yX4_fewest cX4_fewest 5 (some .int) :: TB) rm_X4_fewest 0 0 2 := cw_V 2 ht tw_2_206 tw_2_207 tw_2_208 tw_1_1 tw_2_209 rfl rfl (by decide +kernel) hR
theorem cl_L_115 (ht : ∀ w ∈ TB, w.before args s = true) (hR : rm_X5_fewest.frames + 1 ≤ R.frames ∧ 8 + (5 + 11) + rm_X5_fewest.locals ≤ R.locals) : CallW R s args RL RX5 115 yX5_fewest cX5_fewest 5 (some .int) (Cond.code yX5_fewest cX5_fewest 5 (some .int) :: TB) rm_X5_fewest 0 0 2 := cw_V 2 ht tw_5_70 tw_5_71 tw_5_72 tw_1_7 tw_5_73 rfl rfl (by decide +kernel) hR
theorem cl_L_116 (ht : ∀ w ∈ TB, w.before args s = true) (hR : rm_X4_worth.frames + 1 ≤ R.frames ∧ 8 + (4 + 11) + rm_X4_worth.locals ≤ R.locals) : CallW R s args RL RX4 116 yX4_worth cX4_worth 4 (some .int) (Cond.code yX4_worth cX4_worth 4 (some .int) :: TB) rm_X4_worth 0 0 2 := cw_V 2 ht tw_2_211 tw_2_212 tw_2_213 tw_1_1 tw_2_214 rfl rfl (by decide +kernel) hR
theorem cl_L_119 (ht : ∀ w ∈ TB, w.before args s = true) (hR : rm_X5_worth.frames + 1 ≤ R.frames ∧ 8 + (6 + 11) + rm_X5_worth.locals ≤ R.locals) : CallW R s args RL RX5 119 yX5_worth cX5_worth 6 (some .int) (Cond.code yX5_worth cX5_worth 6 (some .int) :: TB) rm_X5_worth 0 0 2 := cw_V 2 ht tw_5_81 tw_5_82 tw_5_83 tw_1_7 tw_5_84 rfl rfl (by decide +kernel) hR
theorem cl_L_120 (ht : ∀ w ∈ TB, w.before args s = true) (hR : rm_X4_best.frames + 1 ≤ R.frames ∧ 8 + (7 + 11) + rm_X4_best.locals ≤ R.locals) : CallW R s args RL RX4 120 yX4_best cX4_best 7 (some .int) (Cond.code yX4_best cX4_best 7 (some .int) :: TB) rm_X4_best 0 0 1 := cw_V 1 ht tw_2_222 tw_2_223 tw_2_224 tw_1_1 tw_2_225 rfl rfl (by decide +kernel) hR
theorem cl_L_123 (ht : ∀ w ∈ TB, w.before args s = true) (hR : rm_X5_best.frames + 1 ≤ R.frames ∧ 8 + (8 + 11) + rm_X5_best.locals ≤ R.locals) : CallW R s args RL RX5 123 yX5_best cX5_best 8 (some .int) (Cond.code yX5_best cX5_best 8 (some .int) :: TB) rm_X5_best 0 0 1 := cw_V 1 ht tw_5_89 tw_5_90 tw_5_91 tw_1_7 tw_5_92 rfl rfl (by decide +kernel) hR
theorem cl_L_124 (ht : ∀ w ∈ TB, w.before args s = true) (hR : rm_X4_steer.frames + 1 ≤ R.frames ∧ 8 + (4 + 11) + rm_X4_steer.locals ≤ R.locals) : CallW R s args RL RX4 124 yX4_steer cX4_steer 4 (some .int) (Cond.code yX4_steer cX4_steer 4 (some .int) :: TB) rm_X4_steer 0 0 2 := cw_V 2 ht tw_2_226 tw_2_227 tw_2_228 tw_1_1 tw_2_229 rfl rfl (by decide +kernel) hR
theorem cl_L_127 (ht : ∀ w ∈ TB, w.before args s = true) (hR : rm_X5_steer.frames + 1 ≤ R.frames ∧ 8 + (4 + 11) + rm_X5_steer.locals ≤ R.locals) : CallW R s args RL RX5 127 yX5_steer cX5_steer 4 (some .int) (Cond.code yX5_steer cX5_steer 4 (some .int) :: TB) rm_X5_steer 0 0 2 := cw_V 2 ht tw_5_93 tw_5_94 tw_5_95 tw_1_7 tw_5_96 rfl rfl (by decide +kernel) hR
theorem cl_L_128 (ht : ∀ w ∈ TB, w.before args s = true) (hR : rm_X4_kind.frames + 1 ≤ R.frames ∧ 8 + (6 + 11) + rm_X4_kind.locals ≤ R.locals) : CallW R s args RL RX4 128 yX4_kind cX4_kind 6 (some .int) (Cond.code yX4_kind cX4_kind 6 (some .int) :: TB) rm_X4_kind 0 0 2 := cw_V 2 ht tw_2_230 tw_2_231 tw_2_232 tw_1_1 tw_2_233 rfl rfl (by decide +kernel) hR
theorem cl_L_131 (ht : ∀ w ∈ TB, w.before args s = true) (hR : rm_X5_kind.frames + 1 ≤ R.frames ∧ 8 + (8 + 11) + rm_X5_kind.locals ≤ R.locals) : CallW R s args RL RX5 131 yX5_kind cX5_kind 8 (some .int) (Cond.code yX5_kind cX5_kind 8 (some .int) :: TB) rm_X5_kind 0 0 2 := cw_V 2 ht tw_5_97 tw_5_98 tw_5_99 tw_1_7 tw_5_100 rfl rfl (by decide +kernel) hR
theorem cl_L_132 (ht : ∀ w ∈ TB, w.before args s = true) (hR : rm_X4_fair.frames + 1 ≤ R.frames ∧ 8 + (7 + 11) + rm_X4_fair.locals ≤ R.locals) : CallW R s args RL RX4 132 yX4_fair cX4_fair 7 (some .int) (Cond.code yX4_fair cX4_fair 7 (some .int) :: TB) rm_X4_fair 0 0 1 := cw_V 1 ht tw_2_234 tw_2_235 tw_2_236 tw_1_1 tw_2_237 rfl rfl (by decide +kernel) hR
theorem cl_L_135 (ht : ∀ w ∈ TB, w.before args s = true) (hR : rm_X5_fair.frames + 1 ≤ R.frames ∧ 8 + (8 + 11) + rm_X5_fair.locals ≤ R.locals) : CallW R s args RL RX5 135 yX5_fair cX5_fair 8 (some .int) (Cond.code yX5_fair cX5_fair 8 (some .int) :: TB) rm_X5_fair 0 0 1 := cw_V 1 ht tw_5_101 tw_5_102 tw_5_103 tw_1_7 tw_5_104 rfl rfl (by decide +kernel) hR
theorem cl_L_136 (ht : ∀ w ∈ TB, w.before args s = true) (hR : rm_X4_ways.frames + 1 ≤ R.frames ∧ 8 + (8 + 11) + rm_X4_ways.locals ≤ R.locals) : CallW R s args RL RX4 136 yX4_ways cX4_ways 8 (some .int) (Cond.code yX4_ways cX4_ways 8 (some .int) :: TB) rm_X4_ways 0 0 2 := cw_V 2 ht tw_2_239 tw_3_0 tw_3_1 tw_1_1 tw_3_2 rfl rfl (by decide +kernel) hR
theorem cl_L_139 (ht : ∀ w ∈ TB, w.before args s = true) (hR : rm_X5_ways.frames + 1 ≤ R.frames ∧ 8 + (6 + 11) + rm_X5_ways.locals ≤ R.locals) : CallW R s args RL RX5 139 yX5_ways cX5_ways 6 (some .int) (Cond.code yX5_ways cX5_ways 6 (some .int) :: TB) rm_X5_ways 0 0 2 := cw_V 2 ht tw_5_106 tw_5_107 tw_5_108 tw_1_7 tw_5_109 rfl rfl (by decide +kernel) hR
theorem cl_L_140 (ht : ∀ w ∈ TB, w.before args s = true) (hR : rm_X4_feed.frames + 1 ≤ R.frames ∧ 8 + (4 + 11) + rm_X4_feed.locals ≤ R.locals) : CallW R s args RL RX4 140 yX4_feed cX4_feed 4 (some .int) (Cond.code yX4_feed cX4_feed 4 (some .int) :: TB) rm_X4_feed 0 0 2 := cw_V 2 ht tw_3_3 tw_3_4 tw_3_5 tw_1_1 tw_3_6 rfl rfl (by decide +kernel) hR
theorem cl_L_143 (ht : ∀ w ∈ TB, w.before args s = true) (hR : rm_X5_feed.frames + 1 ≤ R.frames ∧ 8 + (4 + 11) + rm_X5_feed.locals ≤ R.locals) : CallW R s args RL RX5 143 yX5_feed cX5_feed 4 (some .int) (Cond.code yX5_feed cX5_feed 4 (some .int) :: TB) rm_X5_feed 0 0 2 := cw_V 2 ht tw_5_110 tw_5_111 tw_5_112 tw_1_7 tw_5_113 rfl rfl (by decide +kernel) hR
theorem cl_L_144 (ht : ∀ w ∈ TB, w.before args s = true) (hR : rm_X4_wipe.frames + 1 ≤ R.frames ∧ 8 + (1 + 11) + rm_X4_wipe.locals ≤ R.locals) : CallW R s args RL RX4 144 yX4_wipe cX4_wipe 1 (some .int) (Cond.code yX4_wipe cX4_wipe 1 (some .int) :: TB) rm_X4_wipe 0 0 0 := cw_V 0 ht tw_3_16 tw_3_17 tw_3_18 tw_1_1 tw_3_19 rfl rfl (by decide +kernel) hR
theorem cl_L_148 (ht : ∀ w ∈ TB, w.before args s = true) (hR : rm_X5_wipe.frames + 1 ≤ R.frames ∧ 8 + (2 + 11) + rm_X5_wipe.locals ≤ R.locals) : CallW R s args RL RX5 148 yX5_wipe cX5_wipe 2 (some .int) (Cond.code yX5_wipe cX5_wipe 2 (some .int) :: TB) rm_X5_wipe 0 0 0 := cw_V 0 ht tw_5_115 tw_5_116 tw_5_117 tw_1_7 tw_5_118 rfl rfl (by decide +kernel) hR
theorem cl_L_149 (ht : ∀ w ∈ TB, w.before args s = true) (hR : rm_X4_valley.frames + 1 ≤ R.frames ∧ 8 + (2 + 11) + rm_X4_valley.locals ≤ R.locals) : CallW R s args RL RX4 149 yX4_valley cX4_valley 2 (some .int) (Cond.code yX4_valley cX4_valley 2 (some .int) :: TB) rm_X4_valley 0 0 0 := cw_V 0 ht tw_3_24 tw_3_25 tw_3_26 tw_1_1 tw_3_27 rfl rfl (by decide +kernel) hR
theorem cl_L_152 (ht : ∀ w ∈ TB, w.before args s = true) (hR : rm_X5_valley.frames + 1 ≤ R.frames ∧ 8 + (3 + 11) + rm_X5_valley.locals ≤ R.locals) : CallW R s args RL RX5 152 yX5_valley cX5_valley 3 (some .int) (Cond.code yX5_valley cX5_valley 3 (some .int) :: TB) rm_X5_valley 0 0 0 := cw_V 0 ht tw_5_119 tw_5_120 tw_5_121 tw_1_7 tw_5_122 rfl rfl (by decide +kernel) hR
theorem cl_L_153 (ht : ∀ w ∈ TB, w.before args s = true) (hR : rm_X4_sheet.frames + 1 ≤ R.frames ∧ 8 + (5 + 11) + rm_X4_sheet.locals ≤ R.locals) : CallW R s args RL RX4 153 yX4_sheet cX4_sheet 5 (some .int) (Cond.code yX4_sheet cX4_sheet 5 (some .int) :: TB) rm_X4_sheet 0 0 3 := cw_V 3 ht tw_3_153 tw_3_154 tw_3_155 tw_1_1 tw_3_156 rfl rfl (by decide +kernel) hR
theorem cl_L_156 (ht : ∀ w ∈ TB, w.before args s = true) (hR : rm_X5_sheet.frames + 1 ≤ R.frames ∧ 8 + (5 + 11) + rm_X5_sheet.locals ≤ R.locals) : CallW R s args RL RX5 156 yX5_sheet cX5_sheet 5 (some .int) (Cond.code yX5_sheet cX5_sheet 5 (some .int) :: TB) rm_X5_sheet 0 0 3 := cw_V 3 ht tw_5_184 tw_5_185 tw_5_186 tw_1_7 tw_5_187 rfl rfl (by decide +kernel) hR
theorem cl_L_159 (ht : ∀ w ∈ TB, w.before args s = true) (hR : rm_X4_write.frames + 1 ≤ R.frames ∧ 8 + (6 + 11) + rm_X4_write.locals ≤ R.locals) : CallW R s args RL RX4 159 yX4_write cX4_write 6 (some .long) (Cond.code yX4_write cX4_write 6 (some .long) :: TB) rm_X4_write 0 0 3 := cw_V 3 ht tw_3_169 tw_3_170 tw_3_171 tw_1_1 tw_3_172 rfl rfl (by decide +kernel) hR
theorem cl_L_163 (ht : ∀ w ∈ TB, w.before args s = true) (hR : rm_X5_write.frames + 1 ≤ R.frames ∧ 8 + (7 + 11) + rm_X5_write.locals ≤ R.locals) : CallW R s args RL RX5 163 yX5_write cX5_write 7 (some .long) (Cond.code yX5_write cX5_write 7 (some .long) :: TB) rm_X5_write 0 0 3 := cw_V 3 ht tw_5_192 tw_5_193 tw_5_194 tw_1_7 tw_5_195 rfl rfl (by decide +kernel) hR
theorem cl_L_164 (ht : ∀ w ∈ TB, w.before args s = true) (hR : rm_X4_copy.frames + 1 ≤ R.frames ∧ 8 + (8 + 11) + rm_X4_copy.locals ≤ R.locals) : CallW R s args RL RX4 164 yX4_copy cX4_copy 8 (some .int) (Cond.code yX4_copy cX4_copy 8 (some .int) :: TB) rm_X4_copy 0 0 5 := cw_V 5 ht tw_3_183 tw_3_184 tw_3_185 tw_1_1 tw_3_186 rfl rfl (by decide +kernel) hR
theorem cl_L_168 (ht : ∀ w ∈ TB, w.before args s = true) (hR : rm_X5_copy.frames + 1 ≤ R.frames ∧ 8 + (10 + 11) + rm_X5_copy.locals ≤ R.locals) : CallW R s args RL RX5 168 yX5_copy cX5_copy 10 (some .int) (Cond.code yX5_copy cX5_copy 10 (some .int) :: TB) rm_X5_copy 0 0 5 := cw_V 5 ht tw_5_200 tw_5_201 tw_5_202 tw_1_7 tw_5_203 rfl rfl (by decide +kernel) hR
theorem cl_L_169 (ht : ∀ w ∈ TB, w.before args s = true) (hR : rm_X4_lays.frames + 1 ≤ R.frames ∧ 8 + (5 + 11) + rm_X4_lays.locals ≤ R.locals) : CallW R s args RL RX4 169 yX4_lays cX4_lays 5 (some .int) (Cond.code yX4_lays cX4_lays 5 (some .int) :: TB) rm_X4_lays 0 0 2 := cw_V 2 ht tw_3_192 tw_3_193 tw_3_194 tw_1_1 tw_3_195 rfl rfl (by decide +kernel) hR
theorem cl_L_172 (ht : ∀ w ∈ TB, w.before args s = true) (hR : rm_X5_lays.frames + 1 ≤ R.frames ∧ 8 + (8 + 11) + rm_X5_lays.locals ≤ R.locals) : CallW R s args RL RX5 172 yX5_lays cX5_lays 8 (some .int) (Cond.code yX5_lays cX5_lays 8 (some .int) :: TB) rm_X5_lays 0 0 2 := cw_V 2 ht tw_5_204 tw_5_205 tw_5_206 tw_1_7 tw_5_207 rfl rfl (by decide +kernel) hR
theorem cl_L_173 (ht : ∀ w ∈ TB, w.before args s = true) (hR : rm_X4_book.frames + 1 ≤ R.frames ∧ 8 + (6 + 11) + rm_X4_book.locals ≤ R.locals) : CallW R s args RL RX4 173 yX4_book cX4_book 6 (some .int) (Cond.code yX4_book cX4_book 6 (some .int) :: TB) rm_X4_book 0 0 2 := cw_V 2 ht tw_3_207 tw_3_208 tw_3_209 tw_1_1 tw_3_210 rfl rfl (by decide +kernel) hR
theorem cl_L_176 (ht : ∀ w ∈ TB, w.before args s = true) (hR : rm_X5_book.frames + 1 ≤ R.frames ∧ 8 + (7 + 11) + rm_X5_book.locals ≤ R.locals) : CallW R s args RL RX5 176 yX5_book cX5_book 7 (some .int) (Cond.code yX5_book cX5_book 7 (some .int) :: TB) rm_X5_book 0 0 2 := cw_V 2 ht tw_5_212 tw_5_213 tw_5_214 tw_1_7 tw_5_215 rfl rfl (by decide +kernel) hR
theorem cl_L_177 (ht : ∀ w ∈ TB, w.before args s = true) (hR : rm_X4_read.frames + 1 ≤ R.frames ∧ 8 + (5 + 11) + rm_X4_read.locals ≤ R.locals) : CallW R s args RL RX4 177 yX4_read cX4_read 5 (some .int) (Cond.code yX4_read cX4_read 5 (some .int) :: TB) rm_X4_read 0 0 1 := cw_V 1 ht tw_3_211 tw_3_212 tw_3_213 tw_1_1 tw_3_214 rfl rfl (by decide +kernel) hR
theorem cl_L_180 (ht : ∀ w ∈ TB, w.before args s = true) (hR : rm_X5_read.frames + 1 ≤ R.frames ∧ 8 + (5 + 11) + rm_X5_read.locals ≤ R.locals) : CallW R s args RL RX5 180 yX5_read cX5_read 5 (some .int) (Cond.code yX5_read cX5_read 5 (some .int) :: TB) rm_X5_read 0 0 1 := cw_V 1 ht tw_5_216 tw_5_217 tw_5_218 tw_1_7 tw_5_219 rfl rfl (by decide +kernel) hR
theorem cl_L_181 (ht : ∀ w ∈ TB, w.before args s = true) (hR : rm_X4_image.frames + 1 ≤ R.frames ∧ 8 + (1 + 11) + rm_X4_image.locals ≤ R.locals) : CallW R s args RL RX4 181 yX4_image cX4_image 1 (some .int) (Cond.code yX4_image cX4_image 1 (some .int) :: TB) rm_X4_image 0 0 0 := cw_V 0 ht tw_3_219 tw_3_220 tw_3_221 tw_1_1 tw_3_222 rfl rfl (by decide +kernel) hR
theorem cl_L_184 (ht : ∀ w ∈ TB, w.before args s = true) (hR : rm_X5_image.frames + 1 ≤ R.frames ∧ 8 + (1 + 11) + rm_X5_image.locals ≤ R.locals) : CallW R s args RL RX5 184 yX5_image cX5_image 1 (some .int) (Cond.code yX5_image cX5_image 1 (some .int) :: TB) rm_X5_image 0 0 0 := cw_V 0 ht tw_5_224 tw_5_225 tw_5_226 tw_1_7 tw_5_227 rfl rfl (by decide +kernel) hR
theorem cl_L_185 (ht : ∀ w ∈ TB, w.before args s = true) (hR : rm_X4_undo.frames + 1 ≤ R.frames ∧ 8 + (1 + 11) + rm_X4_undo.locals ≤ R.locals) : CallW R s args RL RX4 185 yX4_undo cX4_undo 1 (some .int) (Cond.code yX4_undo cX4_undo 1 (some .int) :: TB) rm_X4_undo 0 0 0 := cw_V 0 ht tw_3_223 tw_3_224 tw_3_225 tw_1_1 tw_3_226 rfl rfl (by decide +kernel) hR
theorem cl_L_188 (ht : ∀ w ∈ TB, w.before args s = true) (hR : rm_X5_undo.frames + 1 ≤ R.frames ∧ 8 + (1 + 11) + rm_X5_undo.locals ≤ R.locals) : CallW R s args RL RX5 188 yX5_undo cX5_undo 1 (some .int) (Cond.code yX5_undo cX5_undo 1 (some .int) :: TB) rm_X5_undo 0 0 0 := cw_V 0 ht tw_5_228 tw_5_229 tw_5_230 tw_1_7 tw_5_231 rfl rfl (by decide +kernel) hR
theorem cl_L_189 (ht : ∀ w ∈ TB, w.before args s = true) (hR : rm_X4_tear.frames + 1 ≤ R.frames ∧ 8 + (2 + 11) + rm_X4_tear.locals ≤ R.locals) : CallW R s args RL RX4 189 yX4_tear cX4_tear 2 (some .int) (Cond.code yX4_tear cX4_tear 2 (some .int) :: TB) rm_X4_tear 0 0 0 := cw_V 0 ht tw_3_227 tw_3_228 tw_3_229 tw_1_1 tw_3_230 rfl rfl (by decide +kernel) hR
theorem cl_L_192 (ht : ∀ w ∈ TB, w.before args s = true) (hR : rm_X5_tear.frames + 1 ≤ R.frames ∧ 8 + (2 + 11) + rm_X5_tear.locals ≤ R.locals) : CallW R s args RL RX5 192 yX5_tear cX5_tear 2 (some .int) (Cond.code yX5_tear cX5_tear 2 (some .int) :: TB) rm_X5_tear 0 0 0 := cw_V 0 ht tw_5_232 tw_5_233 tw_5_234 tw_1_7 tw_5_235 rfl rfl (by decide +kernel) hR
theorem cl_L_193 (ht : ∀ w ∈ TB, w.before args s = true) (hR : rm_X4_count.frames + 1 ≤ R.frames ∧ 8 + (2 + 11) + rm_X4_count.locals ≤ R.locals) : CallW R s args RL RX4 193 yX4_count cX4_count 2 (some .int) (Cond.code yX4_count cX4_count 2 (some .int) :: TB) rm_X4_count 0 0 1 := cw_V 1 ht tw_3_231 tw_3_232 tw_3_233 tw_1_1 tw_3_234 rfl rfl (by decide +kernel) hR
theorem cl_L_196 (ht : ∀ w ∈ TB, w.before args s = true) (hR : rm_X5_count.frames + 1 ≤ R.frames ∧ 8 + (4 + 11) + rm_X5_count.locals ≤ R.locals) : CallW R s args RL RX5 196 yX5_count cX5_count 4 (some .int) (Cond.code yX5_count cX5_count 4 (some .int) :: TB) rm_X5_count 0 0 1 := cw_V 1 ht tw_5_236 tw_5_237 tw_5_238 tw_1_7 tw_5_239 rfl rfl (by decide +kernel) hR
theorem cl_L_197 (ht : ∀ w ∈ TB, w.before args s = true) (hR : rm_X4_status.frames + 1 ≤ R.frames ∧ 8 + (4 + 11) + rm_X4_status.locals ≤ R.locals) : CallW R s args RL RX4 197 yX4_status cX4_status 4 (some .int) (Cond.code yX4_status cX4_status 4 (some .int) :: TB) rm_X4_status 0 0 1 := cw_V 1 ht tw_3_239 tw_4_0 tw_4_1 tw_1_1 tw_4_2 rfl rfl (by decide +kernel) hR
theorem cl_L_200 (ht : ∀ w ∈ TB, w.before args s = true) (hR : rm_X5_status.frames + 1 ≤ R.frames ∧ 8 + (2 + 11) + rm_X5_status.locals ≤ R.locals) : CallW R s args RL RX5 200 yX5_status cX5_status 2 (some .int) (Cond.code yX5_status cX5_status 2 (some .int) :: TB) rm_X5_status 0 0 1 := cw_V 1 ht tw_6_0 tw_6_1 tw_6_2 tw_1_7 tw_6_3 rfl rfl (by decide +kernel) hR
set_option maxHeartbeats 4000000 in
set_option maxRecDepth 100000 in
theorem lw_mark (C : LC p s m c b L xs g A) (hL : L ≤ 3072) (hN : 5000 ≤ N) (hi : i + 6 ≤ L) {x : XD} {y : MD} (hs : Sys x y) (hw : Wd g A (XC g q x ++ MC g q2 y) s H locs) (hl : lv_has ls 4 [(0, .ref b), (1, .ref (q 0)), (2, .ref (q2 0)), (3, .int (nI i))]) (kk : ∀ (x2 : XD) (y2 : MD) (H2 : Heap) (locs2 : List Loc), Sys x2 y2 → Wd g A (XC g q x2 ++ MC g q2 y2) s H2 locs2 → W p l e room_1 s m #[Value.ref b] below meth c H2 locs2 63 1977 Q (F0 m 1554 ls [])) : W p l e room_1 s m #[Value.ref b] below meth c H locs 63 1977 Q (F0 m 228 ls []) := by
  have cx := C.1
  have hx := cx.1.1
  have hb := cx.1.2.1
  obtain ⟨r, x2, y2, e1, e2, hs2⟩ := op_mark (N := N) hN hs (xs (i + 1)) (xs (i + 2)) (xs (i + 3))
  refine lv_aload_n hx hb dL_law_228 rfl (lv_at hl 1 rfl) ?_
  refine lw_arg C hL hw hl 1 (by omega) (by decide) dL_law_229 dL_law_230 dL_law_231 dL_law_232 dL_law_233 ?_
  refine lw_arg C hL hw hl 2 (by omega) (by decide) dL_law_234 dL_law_235 dL_law_236 dL_law_237 dL_law_238 ?_
  refine lw_arg C hL hw hl 3 (by omega) (by decide) dL_law_239 dL_law_240 dL_law_241 dL_law_242 dL_law_243 ?_
  refine c_V (As := [.int (xs (i + 1)), .int (xs (i + 2)), .int (xs (i + 3))]) (rest := []) (w' := XC g q x2 ++ MC g q2 y) cx hw (c_X4_mark l g q N (xs (i + 1)) (xs (i + 2)) (xs (i + 3)) x r x2 e1) (cl_L_13 cx.1.2.2.2.2 ⟨Nat.le_of_ble_eq_true rfl, Nat.le_of_ble_eq_true rfl⟩) (x_recv cx hw (ci := 4) rfl 0 rfl) (Ct.inl _ (Ct.all (XC_ll ..)) (XC_ll ..)) hl.1 rfl rfl (Nat.le_of_ble_eq_true rfl) dL_law_244 ⟨Nat.le_of_ble_eq_true rfl, Nat.le_of_ble_eq_true rfl⟩ (st1 := [.int r]) rfl (fun H locs hw => ?_)
  refine lv_aload_n hx hb dL_law_247 rfl (lv_at hl 2 rfl) ?_
  refine lw_arg C hL hw hl 1 (by omega) (by decide) dL_law_248 dL_law_249 dL_law_250 dL_law_251 dL_law_252 ?_
  refine lw_arg C hL hw hl 2 (by omega) (by decide) dL_law_253 dL_law_254 dL_law_255 dL_law_256 dL_law_257 ?_
  refine lw_arg C hL hw hl 3 (by omega) (by decide) dL_law_258 dL_law_259 dL_law_260 dL_law_261 dL_law_262 ?_
  refine c_V (As := [.int (xs (i + 1)), .int (xs (i + 2)), .int (xs (i + 3))]) (rest := [.int r]) (w' := XC g q x2 ++ MC g q2 y2) cx hw (c_X5_mark l g q2 N (xs (i + 1)) (xs (i + 2)) (xs (i + 3)) y r y2 e2) (cl_L_17 cx.1.2.2.2.2 ⟨Nat.le_of_ble_eq_true rfl, Nat.le_of_ble_eq_true rfl⟩) (x_recv cx hw (ci := 5) rfl 53 rfl) (Ct.skip _ (Ct.all (MC_ll ..))) hl.1 rfl rfl (Nat.le_of_ble_eq_true rfl) dL_law_263 ⟨Nat.le_of_ble_eq_true rfl, Nat.le_of_ble_eq_true rfl⟩ (st1 := [.int r, .int r]) rfl (fun H locs hw => ?_)
  exact lv_icmp_eq (tgt := 1554) hx hb dL_law_266 (by decide) (fun _ => kk x2 y2 H locs hs2 hw) (fun h => absurd rfl h)
set_option maxHeartbeats 4000000 in
set_option maxRecDepth 100000 in
theorem lw_let (C : LC p s m c b L xs g A) (hL : L ≤ 3072) (hN : 5000 ≤ N) (hi : i + 6 ≤ L) {x : XD} {y : MD} (hs : Sys x y) (hw : Wd g A (XC g q x ++ MC g q2 y) s H locs) (hl : lv_has ls 4 [(0, .ref b), (1, .ref (q 0)), (2, .ref (q2 0)), (3, .int (nI i))]) (kk : ∀ (x2 : XD) (y2 : MD) (H2 : Heap) (locs2 : List Loc), Sys x2 y2 → Wd g A (XC g q x2 ++ MC g q2 y2) s H2 locs2 → W p l e room_1 s m #[Value.ref b] below meth c H2 locs2 63 1977 Q (F0 m 1554 ls [])) : W p l e room_1 s m #[Value.ref b] below meth c H locs 63 1977 Q (F0 m 271 ls []) := by
  have cx := C.1
  have hx := cx.1.1
  have hb := cx.1.2.1
  obtain ⟨r, x2, y2, e1, e2, hs2⟩ := op_let (N := N) hs (xs (i + 1))
  refine lv_aload_n hx hb dL_law_271 rfl (lv_at hl 1 rfl) ?_
  refine lw_arg C hL hw hl 1 (by omega) (by decide) dL_law_272 dL_law_273 dL_law_274 dL_law_275 dL_law_276 ?_
  refine c_V (As := [.int (xs (i + 1))]) (rest := []) (w' := XC g q x2 ++ MC g q2 y) cx hw (c_X4_let l g q N (xs (i + 1)) x r x2 e1) (cl_L_18 cx.1.2.2.2.2 ⟨Nat.le_of_ble_eq_true rfl, Nat.le_of_ble_eq_true rfl⟩) (x_recv cx hw (ci := 4) rfl 0 rfl) (Ct.inl _ (Ct.all (XC_ll ..)) (XC_ll ..)) hl.1 rfl rfl (Nat.le_of_ble_eq_true rfl) dL_law_277 ⟨Nat.le_of_ble_eq_true rfl, Nat.le_of_ble_eq_true rfl⟩ (st1 := [.int r]) rfl (fun H locs hw => ?_)
  refine lv_aload_n hx hb dL_law_280 rfl (lv_at hl 2 rfl) ?_
  refine lw_arg C hL hw hl 1 (by omega) (by decide) dL_law_281 dL_law_282 dL_law_283 dL_law_284 dL_law_285 ?_
  refine c_V (As := [.int (xs (i + 1))]) (rest := [.int r]) (w' := XC g q x2 ++ MC g q2 y2) cx hw (c_X5_let l g q2 N (xs (i + 1)) y r y2 e2) (cl_L_22 cx.1.2.2.2.2 ⟨Nat.le_of_ble_eq_true rfl, Nat.le_of_ble_eq_true rfl⟩) (x_recv cx hw (ci := 5) rfl 53 rfl) (Ct.skip _ (Ct.all (MC_ll ..))) hl.1 rfl rfl (Nat.le_of_ble_eq_true rfl) dL_law_286 ⟨Nat.le_of_ble_eq_true rfl, Nat.le_of_ble_eq_true rfl⟩ (st1 := [.int r, .int r]) rfl (fun H locs hw => ?_)
  exact lv_icmp_eq (tgt := 1554) hx hb dL_law_289 (by decide) (fun _ => kk x2 y2 H locs hs2 hw) (fun h => absurd rfl h)
set_option maxHeartbeats 4000000 in
set_option maxRecDepth 100000 in
theorem lw_person (C : LC p s m c b L xs g A) (hL : L ≤ 3072) (hN : 5000 ≤ N) (hi : i + 6 ≤ L) {x : XD} {y : MD} (hs : Sys x y) (hw : Wd g A (XC g q x ++ MC g q2 y) s H locs) (hl : lv_has ls 4 [(0, .ref b), (1, .ref (q 0)), (2, .ref (q2 0)), (3, .int (nI i))]) (kk : ∀ (x2 : XD) (y2 : MD) (H2 : Heap) (locs2 : List Loc), Sys x2 y2 → Wd g A (XC g q x2 ++ MC g q2 y2) s H2 locs2 → W p l e room_1 s m #[Value.ref b] below meth c H2 locs2 63 1977 Q (F0 m 1554 ls [])) : W p l e room_1 s m #[Value.ref b] below meth c H locs 63 1977 Q (F0 m 294 ls []) := by
  have cx := C.1
  have hx := cx.1.1
  have hb := cx.1.2.1
  obtain ⟨r, x2, y2, e1, e2, hs2⟩ := op_person (N := N) hN hs (xs (i + 1)) (xs (i + 2))
  refine lv_aload_n hx hb dL_law_294 rfl (lv_at hl 1 rfl) ?_
  refine lw_arg C hL hw hl 1 (by omega) (by decide) dL_law_295 dL_law_296 dL_law_297 dL_law_298 dL_law_299 ?_
  refine lw_arg C hL hw hl 2 (by omega) (by decide) dL_law_300 dL_law_301 dL_law_302 dL_law_303 dL_law_304 ?_
  refine c_V (As := [.int (xs (i + 1)), .int (xs (i + 2))]) (rest := []) (w' := XC g q x2 ++ MC g q2 y) cx hw (c_X4_person l g q N (xs (i + 1)) (xs (i + 2)) x r x2 e1) (cl_L_23 cx.1.2.2.2.2 ⟨Nat.le_of_ble_eq_true rfl, Nat.le_of_ble_eq_true rfl⟩) (x_recv cx hw (ci := 4) rfl 0 rfl) (Ct.inl _ (Ct.all (XC_ll ..)) (XC_ll ..)) hl.1 rfl rfl (Nat.le_of_ble_eq_true rfl) dL_law_305 ⟨Nat.le_of_ble_eq_true rfl, Nat.le_of_ble_eq_true rfl⟩ (st1 := [.int r]) rfl (fun H locs hw => ?_)
  refine lv_aload_n hx hb dL_law_308 rfl (lv_at hl 2 rfl) ?_
  refine lw_arg C hL hw hl 1 (by omega) (by decide) dL_law_309 dL_law_310 dL_law_311 dL_law_312 dL_law_313 ?_
  refine lw_arg C hL hw hl 2 (by omega) (by decide) dL_law_314 dL_law_315 dL_law_316 dL_law_317 dL_law_318 ?_
  refine c_V (As := [.int (xs (i + 1)), .int (xs (i + 2))]) (rest := [.int r]) (w' := XC g q x2 ++ MC g q2 y2) cx hw (c_X5_person l g q2 N (xs (i + 1)) (xs (i + 2)) y r y2 e2) (cl_L_27 cx.1.2.2.2.2 ⟨Nat.le_of_ble_eq_true rfl, Nat.le_of_ble_eq_true rfl⟩) (x_recv cx hw (ci := 5) rfl 53 rfl) (Ct.skip _ (Ct.all (MC_ll ..))) hl.1 rfl rfl (Nat.le_of_ble_eq_true rfl) dL_law_319 ⟨Nat.le_of_ble_eq_true rfl, Nat.le_of_ble_eq_true rfl⟩ (st1 := [.int r, .int r]) rfl (fun H locs hw => ?_)
  exact lv_icmp_eq (tgt := 1554) hx hb dL_law_322 (by decide) (fun _ => kk x2 y2 H locs hs2 hw) (fun h => absurd rfl h)
set_option maxHeartbeats 4000000 in
set_option maxRecDepth 100000 in
theorem lw_of (C : LC p s m c b L xs g A) (hL : L ≤ 3072) (hN : 5000 ≤ N) (hi : i + 6 ≤ L) {x : XD} {y : MD} (hs : Sys x y) (hw : Wd g A (XC g q x ++ MC g q2 y) s H locs) (hl : lv_has ls 4 [(0, .ref b), (1, .ref (q 0)), (2, .ref (q2 0)), (3, .int (nI i))]) (kk : ∀ (x2 : XD) (y2 : MD) (H2 : Heap) (locs2 : List Loc), Sys x2 y2 → Wd g A (XC g q x2 ++ MC g q2 y2) s H2 locs2 → W p l e room_1 s m #[Value.ref b] below meth c H2 locs2 63 1977 Q (F0 m 1554 ls [])) : W p l e room_1 s m #[Value.ref b] below meth c H locs 63 1977 Q (F0 m 327 ls []) := by
  have cx := C.1
  have hx := cx.1.1
  have hb := cx.1.2.1
  obtain ⟨r, x2, y2, e1, e2, hs2⟩ := op_of (N := N) hN hs (xs (i + 1)) (xs (i + 2))
  refine lv_aload_n hx hb dL_law_327 rfl (lv_at hl 1 rfl) ?_
  refine lw_arg C hL hw hl 1 (by omega) (by decide) dL_law_328 dL_law_329 dL_law_330 dL_law_331 dL_law_332 ?_
  refine lw_arg C hL hw hl 2 (by omega) (by decide) dL_law_333 dL_law_334 dL_law_335 dL_law_336 dL_law_337 ?_
  refine c_V (As := [.int (xs (i + 1)), .int (xs (i + 2))]) (rest := []) (w' := XC g q x2 ++ MC g q2 y) cx hw (c_X4_of l g q N (xs (i + 1)) (xs (i + 2)) x r x2 e1) (cl_L_28 cx.1.2.2.2.2 ⟨Nat.le_of_ble_eq_true rfl, Nat.le_of_ble_eq_true rfl⟩) (x_recv cx hw (ci := 4) rfl 0 rfl) (Ct.inl _ (Ct.all (XC_ll ..)) (XC_ll ..)) hl.1 rfl rfl (Nat.le_of_ble_eq_true rfl) dL_law_338 ⟨Nat.le_of_ble_eq_true rfl, Nat.le_of_ble_eq_true rfl⟩ (st1 := [.int r]) rfl (fun H locs hw => ?_)
  refine lv_aload_n hx hb dL_law_341 rfl (lv_at hl 2 rfl) ?_
  refine lw_arg C hL hw hl 1 (by omega) (by decide) dL_law_342 dL_law_343 dL_law_344 dL_law_345 dL_law_346 ?_
  refine lw_arg C hL hw hl 2 (by omega) (by decide) dL_law_347 dL_law_348 dL_law_349 dL_law_350 dL_law_351 ?_
  refine c_V (As := [.int (xs (i + 1)), .int (xs (i + 2))]) (rest := [.int r]) (w' := XC g q x2 ++ MC g q2 y2) cx hw (c_X5_of l g q2 N (xs (i + 1)) (xs (i + 2)) y r y2 e2) (cl_L_31 cx.1.2.2.2.2 ⟨Nat.le_of_ble_eq_true rfl, Nat.le_of_ble_eq_true rfl⟩) (x_recv cx hw (ci := 5) rfl 53 rfl) (Ct.skip _ (Ct.all (MC_ll ..))) hl.1 rfl rfl (Nat.le_of_ble_eq_true rfl) dL_law_352 ⟨Nat.le_of_ble_eq_true rfl, Nat.le_of_ble_eq_true rfl⟩ (st1 := [.int r, .int r]) rfl (fun H locs hw => ?_)
  exact lv_icmp_eq (tgt := 1554) hx hb dL_law_355 (by decide) (fun _ => kk x2 y2 H locs hs2 hw) (fun h => absurd rfl h)
set_option maxHeartbeats 4000000 in
set_option maxRecDepth 100000 in
theorem lw_set (C : LC p s m c b L xs g A) (hL : L ≤ 3072) (hN : 5000 ≤ N) (hi : i + 6 ≤ L) {x : XD} {y : MD} (hs : Sys x y) (hw : Wd g A (XC g q x ++ MC g q2 y) s H locs) (hl : lv_has ls 4 [(0, .ref b), (1, .ref (q 0)), (2, .ref (q2 0)), (3, .int (nI i))]) (kk : ∀ (x2 : XD) (y2 : MD) (H2 : Heap) (locs2 : List Loc), Sys x2 y2 → Wd g A (XC g q x2 ++ MC g q2 y2) s H2 locs2 → W p l e room_1 s m #[Value.ref b] below meth c H2 locs2 63 1977 Q (F0 m 1554 ls [])) : W p l e room_1 s m #[Value.ref b] below meth c H locs 63 1977 Q (F0 m 360 ls []) := by
  have cx := C.1
  have hx := cx.1.1
  have hb := cx.1.2.1
  obtain ⟨r, x2, y2, e1, e2, hs2⟩ := op_set (N := N) hN hs (xs (i + 1)) (xs (i + 2)) (xs (i + 3))
  refine lv_aload_n hx hb dL_law_360 rfl (lv_at hl 1 rfl) ?_
  refine lw_arg C hL hw hl 1 (by omega) (by decide) dL_law_361 dL_law_362 dL_law_363 dL_law_364 dL_law_365 ?_
  refine lw_arg C hL hw hl 2 (by omega) (by decide) dL_law_366 dL_law_367 dL_law_368 dL_law_369 dL_law_370 ?_
  refine lw_arg C hL hw hl 3 (by omega) (by decide) dL_law_371 dL_law_372 dL_law_373 dL_law_374 dL_law_375 ?_
  refine c_V (As := [.int (xs (i + 1)), .int (xs (i + 2)), .int (xs (i + 3))]) (rest := []) (w' := XC g q x2 ++ MC g q2 y) cx hw (c_X4_set l g q N (xs (i + 1)) (xs (i + 2)) (xs (i + 3)) x r x2 e1) (cl_L_32 cx.1.2.2.2.2 ⟨Nat.le_of_ble_eq_true rfl, Nat.le_of_ble_eq_true rfl⟩) (x_recv cx hw (ci := 4) rfl 0 rfl) (Ct.inl _ (Ct.all (XC_ll ..)) (XC_ll ..)) hl.1 rfl rfl (Nat.le_of_ble_eq_true rfl) dL_law_376 ⟨Nat.le_of_ble_eq_true rfl, Nat.le_of_ble_eq_true rfl⟩ (st1 := [.int r]) rfl (fun H locs hw => ?_)
  refine lv_aload_n hx hb dL_law_379 rfl (lv_at hl 2 rfl) ?_
  refine lw_arg C hL hw hl 1 (by omega) (by decide) dL_law_380 dL_law_381 dL_law_382 dL_law_383 dL_law_384 ?_
  refine lw_arg C hL hw hl 2 (by omega) (by decide) dL_law_385 dL_law_386 dL_law_387 dL_law_388 dL_law_389 ?_
  refine lw_arg C hL hw hl 3 (by omega) (by decide) dL_law_390 dL_law_391 dL_law_392 dL_law_393 dL_law_394 ?_
  refine c_V (As := [.int (xs (i + 1)), .int (xs (i + 2)), .int (xs (i + 3))]) (rest := [.int r]) (w' := XC g q x2 ++ MC g q2 y2) cx hw (c_X5_set l g q2 N (xs (i + 1)) (xs (i + 2)) (xs (i + 3)) y r y2 e2) (cl_L_35 cx.1.2.2.2.2 ⟨Nat.le_of_ble_eq_true rfl, Nat.le_of_ble_eq_true rfl⟩) (x_recv cx hw (ci := 5) rfl 53 rfl) (Ct.skip _ (Ct.all (MC_ll ..))) hl.1 rfl rfl (Nat.le_of_ble_eq_true rfl) dL_law_395 ⟨Nat.le_of_ble_eq_true rfl, Nat.le_of_ble_eq_true rfl⟩ (st1 := [.int r, .int r]) rfl (fun H locs hw => ?_)
  exact lv_icmp_eq (tgt := 1554) hx hb dL_law_398 (by decide) (fun _ => kk x2 y2 H locs hs2 hw) (fun h => absurd rfl h)
set_option maxHeartbeats 4000000 in
set_option maxRecDepth 100000 in
theorem lw_way (C : LC p s m c b L xs g A) (hL : L ≤ 3072) (hN : 5000 ≤ N) (hi : i + 6 ≤ L) {x : XD} {y : MD} (hs : Sys x y) (hw : Wd g A (XC g q x ++ MC g q2 y) s H locs) (hl : lv_has ls 4 [(0, .ref b), (1, .ref (q 0)), (2, .ref (q2 0)), (3, .int (nI i))]) (kk : ∀ (x2 : XD) (y2 : MD) (H2 : Heap) (locs2 : List Loc), Sys x2 y2 → Wd g A (XC g q x2 ++ MC g q2 y2) s H2 locs2 → W p l e room_1 s m #[Value.ref b] below meth c H2 locs2 63 1977 Q (F0 m 1554 ls [])) : W p l e room_1 s m #[Value.ref b] below meth c H locs 63 1977 Q (F0 m 403 ls []) := by
  have cx := C.1
  have hx := cx.1.1
  have hb := cx.1.2.1
  obtain ⟨r, x2, y2, e1, e2, hs2⟩ := op_way (N := N) hs (xs (i + 1)) (xs (i + 2))
  refine lv_aload_n hx hb dL_law_403 rfl (lv_at hl 1 rfl) ?_
  refine lw_arg C hL hw hl 1 (by omega) (by decide) dL_law_404 dL_law_405 dL_law_406 dL_law_407 dL_law_408 ?_
  refine lw_arg C hL hw hl 2 (by omega) (by decide) dL_law_409 dL_law_410 dL_law_411 dL_law_412 dL_law_413 ?_
  refine c_V (As := [.int (xs (i + 1)), .int (xs (i + 2))]) (rest := []) (w' := XC g q x2 ++ MC g q2 y) cx hw (c_X4_way l g q N (xs (i + 1)) (xs (i + 2)) x r x2 e1) (cl_L_36 cx.1.2.2.2.2 ⟨Nat.le_of_ble_eq_true rfl, Nat.le_of_ble_eq_true rfl⟩) (x_recv cx hw (ci := 4) rfl 0 rfl) (Ct.inl _ (Ct.all (XC_ll ..)) (XC_ll ..)) hl.1 rfl rfl (Nat.le_of_ble_eq_true rfl) dL_law_414 ⟨Nat.le_of_ble_eq_true rfl, Nat.le_of_ble_eq_true rfl⟩ (st1 := [.int r]) rfl (fun H locs hw => ?_)
  refine lv_aload_n hx hb dL_law_417 rfl (lv_at hl 2 rfl) ?_
  refine lw_arg C hL hw hl 1 (by omega) (by decide) dL_law_418 dL_law_419 dL_law_420 dL_law_421 dL_law_422 ?_
  refine lw_arg C hL hw hl 2 (by omega) (by decide) dL_law_423 dL_law_424 dL_law_425 dL_law_426 dL_law_427 ?_
  refine c_V (As := [.int (xs (i + 1)), .int (xs (i + 2))]) (rest := [.int r]) (w' := XC g q x2 ++ MC g q2 y2) cx hw (c_X5_way l g q2 N (xs (i + 1)) (xs (i + 2)) y r y2 e2) (cl_L_39 cx.1.2.2.2.2 ⟨Nat.le_of_ble_eq_true rfl, Nat.le_of_ble_eq_true rfl⟩) (x_recv cx hw (ci := 5) rfl 53 rfl) (Ct.skip _ (Ct.all (MC_ll ..))) hl.1 rfl rfl (Nat.le_of_ble_eq_true rfl) dL_law_428 ⟨Nat.le_of_ble_eq_true rfl, Nat.le_of_ble_eq_true rfl⟩ (st1 := [.int r, .int r]) rfl (fun H locs hw => ?_)
  exact lv_icmp_eq (tgt := 1554) hx hb dL_law_431 (by decide) (fun _ => kk x2 y2 H locs hs2 hw) (fun h => absurd rfl h)
set_option maxHeartbeats 4000000 in
set_option maxRecDepth 100000 in
theorem lw_be (C : LC p s m c b L xs g A) (hL : L ≤ 3072) (hN : 5000 ≤ N) (hi : i + 6 ≤ L) {x : XD} {y : MD} (hs : Sys x y) (hw : Wd g A (XC g q x ++ MC g q2 y) s H locs) (hl : lv_has ls 4 [(0, .ref b), (1, .ref (q 0)), (2, .ref (q2 0)), (3, .int (nI i))]) (kk : ∀ (x2 : XD) (y2 : MD) (H2 : Heap) (locs2 : List Loc), Sys x2 y2 → Wd g A (XC g q x2 ++ MC g q2 y2) s H2 locs2 → W p l e room_1 s m #[Value.ref b] below meth c H2 locs2 63 1977 Q (F0 m 1554 ls [])) : W p l e room_1 s m #[Value.ref b] below meth c H locs 63 1977 Q (F0 m 436 ls []) := by
  have cx := C.1
  have hx := cx.1.1
  have hb := cx.1.2.1
  obtain ⟨r, x2, y2, e1, e2, hs2⟩ := op_be (N := N) hs (xs (i + 1)) (xs (i + 2)) (xs (i + 3))
  refine lv_aload_n hx hb dL_law_436 rfl (lv_at hl 1 rfl) ?_
  refine lw_arg C hL hw hl 1 (by omega) (by decide) dL_law_437 dL_law_438 dL_law_439 dL_law_440 dL_law_441 ?_
  refine lw_arg C hL hw hl 2 (by omega) (by decide) dL_law_442 dL_law_443 dL_law_444 dL_law_445 dL_law_446 ?_
  refine lw_arg C hL hw hl 3 (by omega) (by decide) dL_law_447 dL_law_448 dL_law_449 dL_law_450 dL_law_451 ?_
  refine c_V (As := [.int (xs (i + 1)), .int (xs (i + 2)), .int (xs (i + 3))]) (rest := []) (w' := XC g q x2 ++ MC g q2 y) cx hw (c_X4_be l g q N (xs (i + 1)) (xs (i + 2)) (xs (i + 3)) x r x2 e1) (cl_L_40 cx.1.2.2.2.2 ⟨Nat.le_of_ble_eq_true rfl, Nat.le_of_ble_eq_true rfl⟩) (x_recv cx hw (ci := 4) rfl 0 rfl) (Ct.inl _ (Ct.all (XC_ll ..)) (XC_ll ..)) hl.1 rfl rfl (Nat.le_of_ble_eq_true rfl) dL_law_452 ⟨Nat.le_of_ble_eq_true rfl, Nat.le_of_ble_eq_true rfl⟩ (st1 := [.int r]) rfl (fun H locs hw => ?_)
  refine lv_aload_n hx hb dL_law_455 rfl (lv_at hl 2 rfl) ?_
  refine lw_arg C hL hw hl 1 (by omega) (by decide) dL_law_456 dL_law_457 dL_law_458 dL_law_459 dL_law_460 ?_
  refine lw_arg C hL hw hl 2 (by omega) (by decide) dL_law_461 dL_law_462 dL_law_463 dL_law_464 dL_law_465 ?_
  refine lw_arg C hL hw hl 3 (by omega) (by decide) dL_law_466 dL_law_467 dL_law_468 dL_law_469 dL_law_470 ?_
  refine c_V (As := [.int (xs (i + 1)), .int (xs (i + 2)), .int (xs (i + 3))]) (rest := [.int r]) (w' := XC g q x2 ++ MC g q2 y2) cx hw (c_X5_be l g q2 N (xs (i + 1)) (xs (i + 2)) (xs (i + 3)) y r y2 e2) (cl_L_43 cx.1.2.2.2.2 ⟨Nat.le_of_ble_eq_true rfl, Nat.le_of_ble_eq_true rfl⟩) (x_recv cx hw (ci := 5) rfl 53 rfl) (Ct.skip _ (Ct.all (MC_ll ..))) hl.1 rfl rfl (Nat.le_of_ble_eq_true rfl) dL_law_471 ⟨Nat.le_of_ble_eq_true rfl, Nat.le_of_ble_eq_true rfl⟩ (st1 := [.int r, .int r]) rfl (fun H locs hw => ?_)
  exact lv_icmp_eq (tgt := 1554) hx hb dL_law_474 (by decide) (fun _ => kk x2 y2 H locs hs2 hw) (fun h => absurd rfl h)
set_option maxHeartbeats 4000000 in
set_option maxRecDepth 100000 in
theorem lw_turn (C : LC p s m c b L xs g A) (hL : L ≤ 3072) (hN : 5000 ≤ N) (hi : i + 6 ≤ L) {x : XD} {y : MD} (hs : Sys x y) (hw : Wd g A (XC g q x ++ MC g q2 y) s H locs) (hl : lv_has ls 4 [(0, .ref b), (1, .ref (q 0)), (2, .ref (q2 0)), (3, .int (nI i))]) (kk : ∀ (x2 : XD) (y2 : MD) (H2 : Heap) (locs2 : List Loc), Sys x2 y2 → Wd g A (XC g q x2 ++ MC g q2 y2) s H2 locs2 → W p l e room_1 s m #[Value.ref b] below meth c H2 locs2 63 1977 Q (F0 m 1554 ls [])) : W p l e room_1 s m #[Value.ref b] below meth c H locs 63 1977 Q (F0 m 479 ls []) := by
  have cx := C.1
  have hx := cx.1.1
  have hb := cx.1.2.1
  obtain ⟨r, x2, y2, e1, e2, hs2⟩ := op_turn (N := N) hs (xs (i + 1)) (xs (i + 2))
  refine lv_aload_n hx hb dL_law_479 rfl (lv_at hl 1 rfl) ?_
  refine lw_arg C hL hw hl 1 (by omega) (by decide) dL_law_480 dL_law_481 dL_law_482 dL_law_483 dL_law_484 ?_
  refine lw_arg C hL hw hl 2 (by omega) (by decide) dL_law_485 dL_law_486 dL_law_487 dL_law_488 dL_law_489 ?_
  refine c_V (As := [.int (xs (i + 1)), .int (xs (i + 2))]) (rest := []) (w' := XC g q x2 ++ MC g q2 y) cx hw (c_X4_turn l g q N (xs (i + 1)) (xs (i + 2)) x r x2 e1) (cl_L_44 cx.1.2.2.2.2 ⟨Nat.le_of_ble_eq_true rfl, Nat.le_of_ble_eq_true rfl⟩) (x_recv cx hw (ci := 4) rfl 0 rfl) (Ct.inl _ (Ct.all (XC_ll ..)) (XC_ll ..)) hl.1 rfl rfl (Nat.le_of_ble_eq_true rfl) dL_law_490 ⟨Nat.le_of_ble_eq_true rfl, Nat.le_of_ble_eq_true rfl⟩ (st1 := [.int r]) rfl (fun H locs hw => ?_)
  refine lv_aload_n hx hb dL_law_493 rfl (lv_at hl 2 rfl) ?_
  refine lw_arg C hL hw hl 1 (by omega) (by decide) dL_law_494 dL_law_495 dL_law_496 dL_law_497 dL_law_498 ?_
  refine lw_arg C hL hw hl 2 (by omega) (by decide) dL_law_499 dL_law_500 dL_law_501 dL_law_502 dL_law_503 ?_
  refine c_V (As := [.int (xs (i + 1)), .int (xs (i + 2))]) (rest := [.int r]) (w' := XC g q x2 ++ MC g q2 y2) cx hw (c_X5_turn l g q2 N (xs (i + 1)) (xs (i + 2)) y r y2 e2) (cl_L_47 cx.1.2.2.2.2 ⟨Nat.le_of_ble_eq_true rfl, Nat.le_of_ble_eq_true rfl⟩) (x_recv cx hw (ci := 5) rfl 53 rfl) (Ct.skip _ (Ct.all (MC_ll ..))) hl.1 rfl rfl (Nat.le_of_ble_eq_true rfl) dL_law_504 ⟨Nat.le_of_ble_eq_true rfl, Nat.le_of_ble_eq_true rfl⟩ (st1 := [.int r, .int r]) rfl (fun H locs hw => ?_)
  exact lv_icmp_eq (tgt := 1554) hx hb dL_law_507 (by decide) (fun _ => kk x2 y2 H locs hs2 hw) (fun h => absurd rfl h)
set_option maxHeartbeats 4000000 in
set_option maxRecDepth 100000 in
theorem lw_as (C : LC p s m c b L xs g A) (hL : L ≤ 3072) (hN : 5000 ≤ N) (hi : i + 6 ≤ L) {x : XD} {y : MD} (hs : Sys x y) (hw : Wd g A (XC g q x ++ MC g q2 y) s H locs) (hl : lv_has ls 4 [(0, .ref b), (1, .ref (q 0)), (2, .ref (q2 0)), (3, .int (nI i))]) (kk : ∀ (x2 : XD) (y2 : MD) (H2 : Heap) (locs2 : List Loc), Sys x2 y2 → Wd g A (XC g q x2 ++ MC g q2 y2) s H2 locs2 → W p l e room_1 s m #[Value.ref b] below meth c H2 locs2 63 1977 Q (F0 m 1554 ls [])) : W p l e room_1 s m #[Value.ref b] below meth c H locs 63 1977 Q (F0 m 512 ls []) := by
  have cx := C.1
  have hx := cx.1.1
  have hb := cx.1.2.1
  obtain ⟨r, x2, y2, e1, e2, hs2⟩ := op_as (N := N) hN hs (xs (i + 1)) (xs (i + 2))
  refine lv_aload_n hx hb dL_law_512 rfl (lv_at hl 1 rfl) ?_
  refine lw_arg C hL hw hl 1 (by omega) (by decide) dL_law_513 dL_law_514 dL_law_515 dL_law_516 dL_law_517 ?_
  refine lw_arg C hL hw hl 2 (by omega) (by decide) dL_law_518 dL_law_519 dL_law_520 dL_law_521 dL_law_522 ?_
  refine c_V (As := [.int (xs (i + 1)), .int (xs (i + 2))]) (rest := []) (w' := XC g q x2 ++ MC g q2 y) cx hw (c_X4_as l g q N (xs (i + 1)) (xs (i + 2)) x r x2 e1) (cl_L_48 cx.1.2.2.2.2 ⟨Nat.le_of_ble_eq_true rfl, Nat.le_of_ble_eq_true rfl⟩) (x_recv cx hw (ci := 4) rfl 0 rfl) (Ct.inl _ (Ct.all (XC_ll ..)) (XC_ll ..)) hl.1 rfl rfl (Nat.le_of_ble_eq_true rfl) dL_law_523 ⟨Nat.le_of_ble_eq_true rfl, Nat.le_of_ble_eq_true rfl⟩ (st1 := [.int r]) rfl (fun H locs hw => ?_)
  refine lv_aload_n hx hb dL_law_526 rfl (lv_at hl 2 rfl) ?_
  refine lw_arg C hL hw hl 1 (by omega) (by decide) dL_law_527 dL_law_528 dL_law_529 dL_law_530 dL_law_531 ?_
  refine lw_arg C hL hw hl 2 (by omega) (by decide) dL_law_532 dL_law_533 dL_law_534 dL_law_535 dL_law_536 ?_
  refine c_V (As := [.int (xs (i + 1)), .int (xs (i + 2))]) (rest := [.int r]) (w' := XC g q x2 ++ MC g q2 y2) cx hw (c_X5_as l g q2 N (xs (i + 1)) (xs (i + 2)) y r y2 e2) (cl_L_51 cx.1.2.2.2.2 ⟨Nat.le_of_ble_eq_true rfl, Nat.le_of_ble_eq_true rfl⟩) (x_recv cx hw (ci := 5) rfl 53 rfl) (Ct.skip _ (Ct.all (MC_ll ..))) hl.1 rfl rfl (Nat.le_of_ble_eq_true rfl) dL_law_537 ⟨Nat.le_of_ble_eq_true rfl, Nat.le_of_ble_eq_true rfl⟩ (st1 := [.int r, .int r]) rfl (fun H locs hw => ?_)
  exact lv_icmp_eq (tgt := 1554) hx hb dL_law_540 (by decide) (fun _ => kk x2 y2 H locs hs2 hw) (fun h => absurd rfl h)
set_option maxHeartbeats 4000000 in
set_option maxRecDepth 100000 in
theorem lw_like (C : LC p s m c b L xs g A) (hL : L ≤ 3072) (hN : 5000 ≤ N) (hi : i + 6 ≤ L) {x : XD} {y : MD} (hs : Sys x y) (hw : Wd g A (XC g q x ++ MC g q2 y) s H locs) (hl : lv_has ls 4 [(0, .ref b), (1, .ref (q 0)), (2, .ref (q2 0)), (3, .int (nI i))]) (kk : ∀ (x2 : XD) (y2 : MD) (H2 : Heap) (locs2 : List Loc), Sys x2 y2 → Wd g A (XC g q x2 ++ MC g q2 y2) s H2 locs2 → W p l e room_1 s m #[Value.ref b] below meth c H2 locs2 63 1977 Q (F0 m 1554 ls [])) : W p l e room_1 s m #[Value.ref b] below meth c H locs 63 1977 Q (F0 m 545 ls []) := by
  have cx := C.1
  have hx := cx.1.1
  have hb := cx.1.2.1
  obtain ⟨r, x2, y2, e1, e2, hs2⟩ := op_like (N := N) hN hs (xs (i + 1)) (xs (i + 2))
  refine lv_aload_n hx hb dL_law_545 rfl (lv_at hl 1 rfl) ?_
  refine lw_arg C hL hw hl 1 (by omega) (by decide) dL_law_546 dL_law_547 dL_law_548 dL_law_549 dL_law_550 ?_
  refine lw_arg C hL hw hl 2 (by omega) (by decide) dL_law_551 dL_law_552 dL_law_553 dL_law_554 dL_law_555 ?_
  refine c_V (As := [.int (xs (i + 1)), .int (xs (i + 2))]) (rest := []) (w' := XC g q x2 ++ MC g q2 y) cx hw (c_X4_like l g q N (xs (i + 1)) (xs (i + 2)) x r x2 e1) (cl_L_52 cx.1.2.2.2.2 ⟨Nat.le_of_ble_eq_true rfl, Nat.le_of_ble_eq_true rfl⟩) (x_recv cx hw (ci := 4) rfl 0 rfl) (Ct.inl _ (Ct.all (XC_ll ..)) (XC_ll ..)) hl.1 rfl rfl (Nat.le_of_ble_eq_true rfl) dL_law_556 ⟨Nat.le_of_ble_eq_true rfl, Nat.le_of_ble_eq_true rfl⟩ (st1 := [.int r]) rfl (fun H locs hw => ?_)
  refine lv_aload_n hx hb dL_law_559 rfl (lv_at hl 2 rfl) ?_
  refine lw_arg C hL hw hl 1 (by omega) (by decide) dL_law_560 dL_law_561 dL_law_562 dL_law_563 dL_law_564 ?_
  refine lw_arg C hL hw hl 2 (by omega) (by decide) dL_law_565 dL_law_566 dL_law_567 dL_law_568 dL_law_569 ?_
  refine c_V (As := [.int (xs (i + 1)), .int (xs (i + 2))]) (rest := [.int r]) (w' := XC g q x2 ++ MC g q2 y2) cx hw (c_X5_like l g q2 N (xs (i + 1)) (xs (i + 2)) y r y2 e2) (cl_L_55 cx.1.2.2.2.2 ⟨Nat.le_of_ble_eq_true rfl, Nat.le_of_ble_eq_true rfl⟩) (x_recv cx hw (ci := 5) rfl 53 rfl) (Ct.skip _ (Ct.all (MC_ll ..))) hl.1 rfl rfl (Nat.le_of_ble_eq_true rfl) dL_law_570 ⟨Nat.le_of_ble_eq_true rfl, Nat.le_of_ble_eq_true rfl⟩ (st1 := [.int r, .int r]) rfl (fun H locs hw => ?_)
  exact lv_icmp_eq (tgt := 1554) hx hb dL_law_573 (by decide) (fun _ => kk x2 y2 H locs hs2 hw) (fun h => absurd rfl h)
set_option maxHeartbeats 4000000 in
set_option maxRecDepth 100000 in
theorem lw_same (C : LC p s m c b L xs g A) (hL : L ≤ 3072) (hN : 5000 ≤ N) (hi : i + 6 ≤ L) {x : XD} {y : MD} (hs : Sys x y) (hw : Wd g A (XC g q x ++ MC g q2 y) s H locs) (hl : lv_has ls 4 [(0, .ref b), (1, .ref (q 0)), (2, .ref (q2 0)), (3, .int (nI i))]) (kk : ∀ (x2 : XD) (y2 : MD) (H2 : Heap) (locs2 : List Loc), Sys x2 y2 → Wd g A (XC g q x2 ++ MC g q2 y2) s H2 locs2 → W p l e room_1 s m #[Value.ref b] below meth c H2 locs2 63 1977 Q (F0 m 1554 ls [])) : W p l e room_1 s m #[Value.ref b] below meth c H locs 63 1977 Q (F0 m 578 ls []) := by
  have cx := C.1
  have hx := cx.1.1
  have hb := cx.1.2.1
  obtain ⟨r, x2, y2, e1, e2, hs2⟩ := op_same (N := N) hN hs (xs (i + 1)) (xs (i + 2))
  refine lv_aload_n hx hb dL_law_578 rfl (lv_at hl 1 rfl) ?_
  refine lw_arg C hL hw hl 1 (by omega) (by decide) dL_law_579 dL_law_580 dL_law_581 dL_law_582 dL_law_583 ?_
  refine lw_arg C hL hw hl 2 (by omega) (by decide) dL_law_584 dL_law_585 dL_law_586 dL_law_587 dL_law_588 ?_
  refine c_V (As := [.int (xs (i + 1)), .int (xs (i + 2))]) (rest := []) (w' := XC g q x2 ++ MC g q2 y) cx hw (c_X4_same l g q N (xs (i + 1)) (xs (i + 2)) x r x2 e1) (cl_L_56 cx.1.2.2.2.2 ⟨Nat.le_of_ble_eq_true rfl, Nat.le_of_ble_eq_true rfl⟩) (x_recv cx hw (ci := 4) rfl 0 rfl) (Ct.inl _ (Ct.all (XC_ll ..)) (XC_ll ..)) hl.1 rfl rfl (Nat.le_of_ble_eq_true rfl) dL_law_589 ⟨Nat.le_of_ble_eq_true rfl, Nat.le_of_ble_eq_true rfl⟩ (st1 := [.int r]) rfl (fun H locs hw => ?_)
  refine lv_aload_n hx hb dL_law_592 rfl (lv_at hl 2 rfl) ?_
  refine lw_arg C hL hw hl 1 (by omega) (by decide) dL_law_593 dL_law_594 dL_law_595 dL_law_596 dL_law_597 ?_
  refine lw_arg C hL hw hl 2 (by omega) (by decide) dL_law_598 dL_law_599 dL_law_600 dL_law_601 dL_law_602 ?_
  refine c_V (As := [.int (xs (i + 1)), .int (xs (i + 2))]) (rest := [.int r]) (w' := XC g q x2 ++ MC g q2 y2) cx hw (c_X5_same l g q2 N (xs (i + 1)) (xs (i + 2)) y r y2 e2) (cl_L_59 cx.1.2.2.2.2 ⟨Nat.le_of_ble_eq_true rfl, Nat.le_of_ble_eq_true rfl⟩) (x_recv cx hw (ci := 5) rfl 53 rfl) (Ct.skip _ (Ct.all (MC_ll ..))) hl.1 rfl rfl (Nat.le_of_ble_eq_true rfl) dL_law_603 ⟨Nat.le_of_ble_eq_true rfl, Nat.le_of_ble_eq_true rfl⟩ (st1 := [.int r, .int r]) rfl (fun H locs hw => ?_)
  exact lv_icmp_eq (tgt := 1554) hx hb dL_law_606 (by decide) (fun _ => kk x2 y2 H locs hs2 hw) (fun h => absurd rfl h)
set_option maxHeartbeats 4000000 in
set_option maxRecDepth 100000 in
theorem lw_heir (C : LC p s m c b L xs g A) (hL : L ≤ 3072) (hN : 5000 ≤ N) (hi : i + 6 ≤ L) {x : XD} {y : MD} (hs : Sys x y) (hw : Wd g A (XC g q x ++ MC g q2 y) s H locs) (hl : lv_has ls 4 [(0, .ref b), (1, .ref (q 0)), (2, .ref (q2 0)), (3, .int (nI i))]) (kk : ∀ (x2 : XD) (y2 : MD) (H2 : Heap) (locs2 : List Loc), Sys x2 y2 → Wd g A (XC g q x2 ++ MC g q2 y2) s H2 locs2 → W p l e room_1 s m #[Value.ref b] below meth c H2 locs2 63 1977 Q (F0 m 1554 ls [])) : W p l e room_1 s m #[Value.ref b] below meth c H locs 63 1977 Q (F0 m 611 ls []) := by
  have cx := C.1
  have hx := cx.1.1
  have hb := cx.1.2.1
  obtain ⟨r, x2, y2, e1, e2, hs2⟩ := op_heir (N := N) hN hs (xs (i + 1))
  refine lv_aload_n hx hb dL_law_611 rfl (lv_at hl 1 rfl) ?_
  refine lw_arg C hL hw hl 1 (by omega) (by decide) dL_law_612 dL_law_613 dL_law_614 dL_law_615 dL_law_616 ?_
  refine c_V (As := [.int (xs (i + 1))]) (rest := []) (w' := XC g q x2 ++ MC g q2 y) cx hw (c_X4_heir l g q N (xs (i + 1)) x r x2 e1) (cl_L_60 cx.1.2.2.2.2 ⟨Nat.le_of_ble_eq_true rfl, Nat.le_of_ble_eq_true rfl⟩) (x_recv cx hw (ci := 4) rfl 0 rfl) (Ct.inl _ (Ct.all (XC_ll ..)) (XC_ll ..)) hl.1 rfl rfl (Nat.le_of_ble_eq_true rfl) dL_law_617 ⟨Nat.le_of_ble_eq_true rfl, Nat.le_of_ble_eq_true rfl⟩ (st1 := [.int r]) rfl (fun H locs hw => ?_)
  refine lv_aload_n hx hb dL_law_620 rfl (lv_at hl 2 rfl) ?_
  refine lw_arg C hL hw hl 1 (by omega) (by decide) dL_law_621 dL_law_622 dL_law_623 dL_law_624 dL_law_625 ?_
  refine c_V (As := [.int (xs (i + 1))]) (rest := [.int r]) (w' := XC g q x2 ++ MC g q2 y2) cx hw (c_X5_heir l g q2 N (xs (i + 1)) y r y2 e2) (cl_L_63 cx.1.2.2.2.2 ⟨Nat.le_of_ble_eq_true rfl, Nat.le_of_ble_eq_true rfl⟩) (x_recv cx hw (ci := 5) rfl 53 rfl) (Ct.skip _ (Ct.all (MC_ll ..))) hl.1 rfl rfl (Nat.le_of_ble_eq_true rfl) dL_law_626 ⟨Nat.le_of_ble_eq_true rfl, Nat.le_of_ble_eq_true rfl⟩ (st1 := [.int r, .int r]) rfl (fun H locs hw => ?_)
  exact lv_icmp_eq (tgt := 1554) hx hb dL_law_629 (by decide) (fun _ => kk x2 y2 H locs hs2 hw) (fun h => absurd rfl h)
set_option maxHeartbeats 4000000 in
set_option maxRecDepth 100000 in
theorem lw_heirOf (C : LC p s m c b L xs g A) (hL : L ≤ 3072) (hN : 5000 ≤ N) (hi : i + 6 ≤ L) {x : XD} {y : MD} (hs : Sys x y) (hw : Wd g A (XC g q x ++ MC g q2 y) s H locs) (hl : lv_has ls 4 [(0, .ref b), (1, .ref (q 0)), (2, .ref (q2 0)), (3, .int (nI i))]) (kk : ∀ (x2 : XD) (y2 : MD) (H2 : Heap) (locs2 : List Loc), Sys x2 y2 → Wd g A (XC g q x2 ++ MC g q2 y2) s H2 locs2 → W p l e room_1 s m #[Value.ref b] below meth c H2 locs2 63 1977 Q (F0 m 1554 ls [])) : W p l e room_1 s m #[Value.ref b] below meth c H locs 63 1977 Q (F0 m 634 ls []) := by
  have cx := C.1
  have hx := cx.1.1
  have hb := cx.1.2.1
  obtain ⟨r, x2, y2, e1, e2, hs2⟩ := op_heirOf (N := N) hN hs (xs (i + 1))
  refine lv_aload_n hx hb dL_law_634 rfl (lv_at hl 1 rfl) ?_
  refine lw_arg C hL hw hl 1 (by omega) (by decide) dL_law_635 dL_law_636 dL_law_637 dL_law_638 dL_law_639 ?_
  refine c_V (As := [.int (xs (i + 1))]) (rest := []) (w' := XC g q x2 ++ MC g q2 y) cx hw (c_X4_heirOf l g q N (xs (i + 1)) x r x2 e1) (cl_L_64 cx.1.2.2.2.2 ⟨Nat.le_of_ble_eq_true rfl, Nat.le_of_ble_eq_true rfl⟩) (x_recv cx hw (ci := 4) rfl 0 rfl) (Ct.inl _ (Ct.all (XC_ll ..)) (XC_ll ..)) hl.1 rfl rfl (Nat.le_of_ble_eq_true rfl) dL_law_640 ⟨Nat.le_of_ble_eq_true rfl, Nat.le_of_ble_eq_true rfl⟩ (st1 := [.int r]) rfl (fun H locs hw => ?_)
  refine lv_aload_n hx hb dL_law_643 rfl (lv_at hl 2 rfl) ?_
  refine lw_arg C hL hw hl 1 (by omega) (by decide) dL_law_644 dL_law_645 dL_law_646 dL_law_647 dL_law_648 ?_
  refine c_V (As := [.int (xs (i + 1))]) (rest := [.int r]) (w' := XC g q x2 ++ MC g q2 y2) cx hw (c_X5_heirOf l g q2 N (xs (i + 1)) y r y2 e2) (cl_L_67 cx.1.2.2.2.2 ⟨Nat.le_of_ble_eq_true rfl, Nat.le_of_ble_eq_true rfl⟩) (x_recv cx hw (ci := 5) rfl 53 rfl) (Ct.skip _ (Ct.all (MC_ll ..))) hl.1 rfl rfl (Nat.le_of_ble_eq_true rfl) dL_law_649 ⟨Nat.le_of_ble_eq_true rfl, Nat.le_of_ble_eq_true rfl⟩ (st1 := [.int r, .int r]) rfl (fun H locs hw => ?_)
  exact lv_icmp_eq (tgt := 1554) hx hb dL_law_652 (by decide) (fun _ => kk x2 y2 H locs hs2 hw) (fun h => absurd rfl h)
set_option maxHeartbeats 4000000 in
set_option maxRecDepth 100000 in
theorem lw_watched (C : LC p s m c b L xs g A) (hL : L ≤ 3072) (hN : 5000 ≤ N) (hi : i + 6 ≤ L) {x : XD} {y : MD} (hs : Sys x y) (hw : Wd g A (XC g q x ++ MC g q2 y) s H locs) (hl : lv_has ls 4 [(0, .ref b), (1, .ref (q 0)), (2, .ref (q2 0)), (3, .int (nI i))]) (kk : ∀ (x2 : XD) (y2 : MD) (H2 : Heap) (locs2 : List Loc), Sys x2 y2 → Wd g A (XC g q x2 ++ MC g q2 y2) s H2 locs2 → W p l e room_1 s m #[Value.ref b] below meth c H2 locs2 63 1977 Q (F0 m 1554 ls [])) : W p l e room_1 s m #[Value.ref b] below meth c H locs 63 1977 Q (F0 m 657 ls []) := by
  have cx := C.1
  have hx := cx.1.1
  have hb := cx.1.2.1
  obtain ⟨r, x2, y2, e1, e2, hs2⟩ := op_watched (N := N) hN hs (xs (i + 1))
  refine lv_aload_n hx hb dL_law_657 rfl (lv_at hl 1 rfl) ?_
  refine lw_arg C hL hw hl 1 (by omega) (by decide) dL_law_658 dL_law_659 dL_law_660 dL_law_661 dL_law_662 ?_
  refine c_V (As := [.int (xs (i + 1))]) (rest := []) (w' := XC g q x2 ++ MC g q2 y) cx hw (c_X4_watched l g q N (xs (i + 1)) x r x2 e1) (cl_L_68 cx.1.2.2.2.2 ⟨Nat.le_of_ble_eq_true rfl, Nat.le_of_ble_eq_true rfl⟩) (x_recv cx hw (ci := 4) rfl 0 rfl) (Ct.inl _ (Ct.all (XC_ll ..)) (XC_ll ..)) hl.1 rfl rfl (Nat.le_of_ble_eq_true rfl) dL_law_663 ⟨Nat.le_of_ble_eq_true rfl, Nat.le_of_ble_eq_true rfl⟩ (st1 := [.int r]) rfl (fun H locs hw => ?_)
  refine lv_aload_n hx hb dL_law_666 rfl (lv_at hl 2 rfl) ?_
  refine lw_arg C hL hw hl 1 (by omega) (by decide) dL_law_667 dL_law_668 dL_law_669 dL_law_670 dL_law_671 ?_
  refine c_V (As := [.int (xs (i + 1))]) (rest := [.int r]) (w' := XC g q x2 ++ MC g q2 y2) cx hw (c_X5_watched l g q2 N (xs (i + 1)) y r y2 e2) (cl_L_71 cx.1.2.2.2.2 ⟨Nat.le_of_ble_eq_true rfl, Nat.le_of_ble_eq_true rfl⟩) (x_recv cx hw (ci := 5) rfl 53 rfl) (Ct.skip _ (Ct.all (MC_ll ..))) hl.1 rfl rfl (Nat.le_of_ble_eq_true rfl) dL_law_672 ⟨Nat.le_of_ble_eq_true rfl, Nat.le_of_ble_eq_true rfl⟩ (st1 := [.int r, .int r]) rfl (fun H locs hw => ?_)
  exact lv_icmp_eq (tgt := 1554) hx hb dL_law_675 (by decide) (fun _ => kk x2 y2 H locs hs2 hw) (fun h => absurd rfl h)
set_option maxHeartbeats 4000000 in
set_option maxRecDepth 100000 in
theorem lw_changes (C : LC p s m c b L xs g A) (hL : L ≤ 3072) (hN : 5000 ≤ N) (hi : i + 6 ≤ L) {x : XD} {y : MD} (hs : Sys x y) (hw : Wd g A (XC g q x ++ MC g q2 y) s H locs) (hl : lv_has ls 4 [(0, .ref b), (1, .ref (q 0)), (2, .ref (q2 0)), (3, .int (nI i))]) (kk : ∀ (x2 : XD) (y2 : MD) (H2 : Heap) (locs2 : List Loc), Sys x2 y2 → Wd g A (XC g q x2 ++ MC g q2 y2) s H2 locs2 → W p l e room_1 s m #[Value.ref b] below meth c H2 locs2 63 1977 Q (F0 m 1554 ls [])) : W p l e room_1 s m #[Value.ref b] below meth c H locs 63 1977 Q (F0 m 680 ls []) := by
  have cx := C.1
  have hx := cx.1.1
  have hb := cx.1.2.1
  obtain ⟨r, x2, y2, e1, e2, hs2⟩ := op_changes (N := N) hN hs (xs (i + 1))
  refine lv_aload_n hx hb dL_law_680 rfl (lv_at hl 1 rfl) ?_
  refine lw_arg C hL hw hl 1 (by omega) (by decide) dL_law_681 dL_law_682 dL_law_683 dL_law_684 dL_law_685 ?_
  refine c_V (As := [.int (xs (i + 1))]) (rest := []) (w' := XC g q x2 ++ MC g q2 y) cx hw (c_X4_changes l g q N (xs (i + 1)) x r x2 e1) (cl_L_72 cx.1.2.2.2.2 ⟨Nat.le_of_ble_eq_true rfl, Nat.le_of_ble_eq_true rfl⟩) (x_recv cx hw (ci := 4) rfl 0 rfl) (Ct.inl _ (Ct.all (XC_ll ..)) (XC_ll ..)) hl.1 rfl rfl (Nat.le_of_ble_eq_true rfl) dL_law_686 ⟨Nat.le_of_ble_eq_true rfl, Nat.le_of_ble_eq_true rfl⟩ (st1 := [.int r]) rfl (fun H locs hw => ?_)
  refine lv_aload_n hx hb dL_law_689 rfl (lv_at hl 2 rfl) ?_
  refine lw_arg C hL hw hl 1 (by omega) (by decide) dL_law_690 dL_law_691 dL_law_692 dL_law_693 dL_law_694 ?_
  refine c_V (As := [.int (xs (i + 1))]) (rest := [.int r]) (w' := XC g q x2 ++ MC g q2 y2) cx hw (c_X5_changes l g q2 N (xs (i + 1)) y r y2 e2) (cl_L_75 cx.1.2.2.2.2 ⟨Nat.le_of_ble_eq_true rfl, Nat.le_of_ble_eq_true rfl⟩) (x_recv cx hw (ci := 5) rfl 53 rfl) (Ct.skip _ (Ct.all (MC_ll ..))) hl.1 rfl rfl (Nat.le_of_ble_eq_true rfl) dL_law_695 ⟨Nat.le_of_ble_eq_true rfl, Nat.le_of_ble_eq_true rfl⟩ (st1 := [.int r, .int r]) rfl (fun H locs hw => ?_)
  exact lv_icmp_eq (tgt := 1554) hx hb dL_law_698 (by decide) (fun _ => kk x2 y2 H locs hs2 hw) (fun h => absurd rfl h)
set_option maxHeartbeats 4000000 in
set_option maxRecDepth 100000 in
theorem lw_years (C : LC p s m c b L xs g A) (hL : L ≤ 3072) (hN : 5000 ≤ N) (hi : i + 6 ≤ L) {x : XD} {y : MD} (hs : Sys x y) (hw : Wd g A (XC g q x ++ MC g q2 y) s H locs) (hl : lv_has ls 4 [(0, .ref b), (1, .ref (q 0)), (2, .ref (q2 0)), (3, .int (nI i))]) (kk : ∀ (x2 : XD) (y2 : MD) (H2 : Heap) (locs2 : List Loc), Sys x2 y2 → Wd g A (XC g q x2 ++ MC g q2 y2) s H2 locs2 → W p l e room_1 s m #[Value.ref b] below meth c H2 locs2 63 1977 Q (F0 m 1554 ls [])) : W p l e room_1 s m #[Value.ref b] below meth c H locs 63 1977 Q (F0 m 703 ls []) := by
  have cx := C.1
  have hx := cx.1.1
  have hb := cx.1.2.1
  obtain ⟨r, x2, y2, e1, e2, hs2⟩ := op_years (N := N) hN hs (xs (i + 1))
  refine lv_aload_n hx hb dL_law_703 rfl (lv_at hl 1 rfl) ?_
  refine lw_arg C hL hw hl 1 (by omega) (by decide) dL_law_704 dL_law_705 dL_law_706 dL_law_707 dL_law_708 ?_
  refine c_V (As := [.int (xs (i + 1))]) (rest := []) (w' := XC g q x2 ++ MC g q2 y) cx hw (c_X4_years l g q N (xs (i + 1)) x r x2 e1) (cl_L_76 cx.1.2.2.2.2 ⟨Nat.le_of_ble_eq_true rfl, Nat.le_of_ble_eq_true rfl⟩) (x_recv cx hw (ci := 4) rfl 0 rfl) (Ct.inl _ (Ct.all (XC_ll ..)) (XC_ll ..)) hl.1 rfl rfl (Nat.le_of_ble_eq_true rfl) dL_law_709 ⟨Nat.le_of_ble_eq_true rfl, Nat.le_of_ble_eq_true rfl⟩ (st1 := [.int r]) rfl (fun H locs hw => ?_)
  refine lv_aload_n hx hb dL_law_712 rfl (lv_at hl 2 rfl) ?_
  refine lw_arg C hL hw hl 1 (by omega) (by decide) dL_law_713 dL_law_714 dL_law_715 dL_law_716 dL_law_717 ?_
  refine c_V (As := [.int (xs (i + 1))]) (rest := [.int r]) (w' := XC g q x2 ++ MC g q2 y2) cx hw (c_X5_years l g q2 N (xs (i + 1)) y r y2 e2) (cl_L_79 cx.1.2.2.2.2 ⟨Nat.le_of_ble_eq_true rfl, Nat.le_of_ble_eq_true rfl⟩) (x_recv cx hw (ci := 5) rfl 53 rfl) (Ct.skip _ (Ct.all (MC_ll ..))) hl.1 rfl rfl (Nat.le_of_ble_eq_true rfl) dL_law_718 ⟨Nat.le_of_ble_eq_true rfl, Nat.le_of_ble_eq_true rfl⟩ (st1 := [.int r, .int r]) rfl (fun H locs hw => ?_)
  exact lv_icmp_eq (tgt := 1554) hx hb dL_law_721 (by decide) (fun _ => kk x2 y2 H locs hs2 hw) (fun h => absurd rfl h)
set_option maxHeartbeats 4000000 in
set_option maxRecDepth 100000 in
theorem lw_dies (C : LC p s m c b L xs g A) (hL : L ≤ 3072) (hN : 5000 ≤ N) (hi : i + 6 ≤ L) {x : XD} {y : MD} (hs : Sys x y) (hw : Wd g A (XC g q x ++ MC g q2 y) s H locs) (hl : lv_has ls 4 [(0, .ref b), (1, .ref (q 0)), (2, .ref (q2 0)), (3, .int (nI i))]) (kk : ∀ (x2 : XD) (y2 : MD) (H2 : Heap) (locs2 : List Loc), Sys x2 y2 → Wd g A (XC g q x2 ++ MC g q2 y2) s H2 locs2 → W p l e room_1 s m #[Value.ref b] below meth c H2 locs2 63 1977 Q (F0 m 1554 ls [])) : W p l e room_1 s m #[Value.ref b] below meth c H locs 63 1977 Q (F0 m 726 ls []) := by
  have cx := C.1
  have hx := cx.1.1
  have hb := cx.1.2.1
  obtain ⟨r, x2, y2, e1, e2, hs2⟩ := op_dies (N := N) hN hs (xs (i + 1))
  refine lv_aload_n hx hb dL_law_726 rfl (lv_at hl 1 rfl) ?_
  refine lw_arg C hL hw hl 1 (by omega) (by decide) dL_law_727 dL_law_728 dL_law_729 dL_law_730 dL_law_731 ?_
  refine c_V (As := [.int (xs (i + 1))]) (rest := []) (w' := XC g q x2 ++ MC g q2 y) cx hw (c_X4_dies l g q N (xs (i + 1)) x r x2 e1) (cl_L_80 cx.1.2.2.2.2 ⟨Nat.le_of_ble_eq_true rfl, Nat.le_of_ble_eq_true rfl⟩) (x_recv cx hw (ci := 4) rfl 0 rfl) (Ct.inl _ (Ct.all (XC_ll ..)) (XC_ll ..)) hl.1 rfl rfl (Nat.le_of_ble_eq_true rfl) dL_law_732 ⟨Nat.le_of_ble_eq_true rfl, Nat.le_of_ble_eq_true rfl⟩ (st1 := [.int r]) rfl (fun H locs hw => ?_)
  refine lv_aload_n hx hb dL_law_735 rfl (lv_at hl 2 rfl) ?_
  refine lw_arg C hL hw hl 1 (by omega) (by decide) dL_law_736 dL_law_737 dL_law_738 dL_law_739 dL_law_740 ?_
  refine c_V (As := [.int (xs (i + 1))]) (rest := [.int r]) (w' := XC g q x2 ++ MC g q2 y2) cx hw (c_X5_dies l g q2 N (xs (i + 1)) y r y2 e2) (cl_L_83 cx.1.2.2.2.2 ⟨Nat.le_of_ble_eq_true rfl, Nat.le_of_ble_eq_true rfl⟩) (x_recv cx hw (ci := 5) rfl 53 rfl) (Ct.skip _ (Ct.all (MC_ll ..))) hl.1 rfl rfl (Nat.le_of_ble_eq_true rfl) dL_law_741 ⟨Nat.le_of_ble_eq_true rfl, Nat.le_of_ble_eq_true rfl⟩ (st1 := [.int r, .int r]) rfl (fun H locs hw => ?_)
  exact lv_icmp_eq (tgt := 1554) hx hb dL_law_744 (by decide) (fun _ => kk x2 y2 H locs hs2 hw) (fun h => absurd rfl h)
set_option maxHeartbeats 4000000 in
set_option maxRecDepth 100000 in
theorem lw_now (C : LC p s m c b L xs g A) (hL : L ≤ 3072) (hN : 5000 ≤ N) (hi : i + 6 ≤ L) {x : XD} {y : MD} (hs : Sys x y) (hw : Wd g A (XC g q x ++ MC g q2 y) s H locs) (hl : lv_has ls 4 [(0, .ref b), (1, .ref (q 0)), (2, .ref (q2 0)), (3, .int (nI i))]) (kk : ∀ (x2 : XD) (y2 : MD) (H2 : Heap) (locs2 : List Loc), Sys x2 y2 → Wd g A (XC g q x2 ++ MC g q2 y2) s H2 locs2 → W p l e room_1 s m #[Value.ref b] below meth c H2 locs2 63 1977 Q (F0 m 1554 ls [])) : W p l e room_1 s m #[Value.ref b] below meth c H locs 63 1977 Q (F0 m 749 ls []) := by
  have cx := C.1
  have hx := cx.1.1
  have hb := cx.1.2.1
  obtain ⟨r, x2, y2, e1, e2, hs2⟩ := op_now (N := N) hN hs (xs (i + 1))
  refine lv_aload_n hx hb dL_law_749 rfl (lv_at hl 1 rfl) ?_
  refine lw_arg C hL hw hl 1 (by omega) (by decide) dL_law_750 dL_law_751 dL_law_752 dL_law_753 dL_law_754 ?_
  refine c_V (As := [.int (xs (i + 1))]) (rest := []) (w' := XC g q x2 ++ MC g q2 y) cx hw (c_X4_now l g q N (xs (i + 1)) x r x2 e1) (cl_L_84 cx.1.2.2.2.2 ⟨Nat.le_of_ble_eq_true rfl, Nat.le_of_ble_eq_true rfl⟩) (x_recv cx hw (ci := 4) rfl 0 rfl) (Ct.inl _ (Ct.all (XC_ll ..)) (XC_ll ..)) hl.1 rfl rfl (Nat.le_of_ble_eq_true rfl) dL_law_755 ⟨Nat.le_of_ble_eq_true rfl, Nat.le_of_ble_eq_true rfl⟩ (st1 := [.int r]) rfl (fun H locs hw => ?_)
  refine lv_aload_n hx hb dL_law_758 rfl (lv_at hl 2 rfl) ?_
  refine lw_arg C hL hw hl 1 (by omega) (by decide) dL_law_759 dL_law_760 dL_law_761 dL_law_762 dL_law_763 ?_
  refine c_V (As := [.int (xs (i + 1))]) (rest := [.int r]) (w' := XC g q x2 ++ MC g q2 y2) cx hw (c_X5_now l g q2 N (xs (i + 1)) y r y2 e2) (cl_L_87 cx.1.2.2.2.2 ⟨Nat.le_of_ble_eq_true rfl, Nat.le_of_ble_eq_true rfl⟩) (x_recv cx hw (ci := 5) rfl 53 rfl) (Ct.skip _ (Ct.all (MC_ll ..))) hl.1 rfl rfl (Nat.le_of_ble_eq_true rfl) dL_law_764 ⟨Nat.le_of_ble_eq_true rfl, Nat.le_of_ble_eq_true rfl⟩ (st1 := [.int r, .int r]) rfl (fun H locs hw => ?_)
  exact lv_icmp_eq (tgt := 1554) hx hb dL_law_767 (by decide) (fun _ => kk x2 y2 H locs hs2 hw) (fun h => absurd rfl h)
set_option maxHeartbeats 4000000 in
set_option maxRecDepth 100000 in
theorem lw_on (C : LC p s m c b L xs g A) (hL : L ≤ 3072) (hN : 5000 ≤ N) (hi : i + 6 ≤ L) {x : XD} {y : MD} (hs : Sys x y) (hw : Wd g A (XC g q x ++ MC g q2 y) s H locs) (hl : lv_has ls 4 [(0, .ref b), (1, .ref (q 0)), (2, .ref (q2 0)), (3, .int (nI i))]) (kk : ∀ (x2 : XD) (y2 : MD) (H2 : Heap) (locs2 : List Loc), Sys x2 y2 → Wd g A (XC g q x2 ++ MC g q2 y2) s H2 locs2 → W p l e room_1 s m #[Value.ref b] below meth c H2 locs2 63 1977 Q (F0 m 1554 ls [])) : W p l e room_1 s m #[Value.ref b] below meth c H locs 63 1977 Q (F0 m 772 ls []) := by
  have cx := C.1
  have hx := cx.1.1
  have hb := cx.1.2.1
  obtain ⟨r, x2, y2, e1, e2, hs2⟩ := op_on (N := N) hN hs (xs (i + 1)) (xs (i + 2))
  refine lv_aload_n hx hb dL_law_772 rfl (lv_at hl 1 rfl) ?_
  refine lw_arg C hL hw hl 1 (by omega) (by decide) dL_law_773 dL_law_774 dL_law_775 dL_law_776 dL_law_777 ?_
  refine lw_arg C hL hw hl 2 (by omega) (by decide) dL_law_778 dL_law_779 dL_law_780 dL_law_781 dL_law_782 ?_
  refine c_V (As := [.int (xs (i + 1)), .int (xs (i + 2))]) (rest := []) (w' := XC g q x2 ++ MC g q2 y) cx hw (c_X4_on l g q N (xs (i + 1)) (xs (i + 2)) x r x2 e1) (cl_L_88 cx.1.2.2.2.2 ⟨Nat.le_of_ble_eq_true rfl, Nat.le_of_ble_eq_true rfl⟩) (x_recv cx hw (ci := 4) rfl 0 rfl) (Ct.inl _ (Ct.all (XC_ll ..)) (XC_ll ..)) hl.1 rfl rfl (Nat.le_of_ble_eq_true rfl) dL_law_783 ⟨Nat.le_of_ble_eq_true rfl, Nat.le_of_ble_eq_true rfl⟩ (st1 := [.int r]) rfl (fun H locs hw => ?_)
  refine lv_aload_n hx hb dL_law_786 rfl (lv_at hl 2 rfl) ?_
  refine lw_arg C hL hw hl 1 (by omega) (by decide) dL_law_787 dL_law_788 dL_law_789 dL_law_790 dL_law_791 ?_
  refine lw_arg C hL hw hl 2 (by omega) (by decide) dL_law_792 dL_law_793 dL_law_794 dL_law_795 dL_law_796 ?_
  refine c_V (As := [.int (xs (i + 1)), .int (xs (i + 2))]) (rest := [.int r]) (w' := XC g q x2 ++ MC g q2 y2) cx hw (c_X5_on l g q2 N (xs (i + 1)) (xs (i + 2)) y r y2 e2) (cl_L_91 cx.1.2.2.2.2 ⟨Nat.le_of_ble_eq_true rfl, Nat.le_of_ble_eq_true rfl⟩) (x_recv cx hw (ci := 5) rfl 53 rfl) (Ct.skip _ (Ct.all (MC_ll ..))) hl.1 rfl rfl (Nat.le_of_ble_eq_true rfl) dL_law_797 ⟨Nat.le_of_ble_eq_true rfl, Nat.le_of_ble_eq_true rfl⟩ (st1 := [.int r, .int r]) rfl (fun H locs hw => ?_)
  exact lv_icmp_eq (tgt := 1554) hx hb dL_law_800 (by decide) (fun _ => kk x2 y2 H locs hs2 hw) (fun h => absurd rfl h)
set_option maxHeartbeats 4000000 in
set_option maxRecDepth 100000 in
theorem lw_living (C : LC p s m c b L xs g A) (hL : L ≤ 3072) (hN : 5000 ≤ N) (hi : i + 6 ≤ L) {x : XD} {y : MD} (hs : Sys x y) (hw : Wd g A (XC g q x ++ MC g q2 y) s H locs) (hl : lv_has ls 4 [(0, .ref b), (1, .ref (q 0)), (2, .ref (q2 0)), (3, .int (nI i))]) (kk : ∀ (x2 : XD) (y2 : MD) (H2 : Heap) (locs2 : List Loc), Sys x2 y2 → Wd g A (XC g q x2 ++ MC g q2 y2) s H2 locs2 → W p l e room_1 s m #[Value.ref b] below meth c H2 locs2 63 1977 Q (F0 m 1554 ls [])) : W p l e room_1 s m #[Value.ref b] below meth c H locs 63 1977 Q (F0 m 805 ls []) := by
  have cx := C.1
  have hx := cx.1.1
  have hb := cx.1.2.1
  obtain ⟨r, x2, y2, e1, e2, hs2⟩ := op_living (N := N) hN hs (xs (i + 1))
  refine lv_aload_n hx hb dL_law_805 rfl (lv_at hl 1 rfl) ?_
  refine lw_arg C hL hw hl 1 (by omega) (by decide) dL_law_806 dL_law_807 dL_law_808 dL_law_809 dL_law_810 ?_
  refine c_V (As := [.int (xs (i + 1))]) (rest := []) (w' := XC g q x2 ++ MC g q2 y) cx hw (c_X4_living l g q N (xs (i + 1)) x r x2 e1) (cl_L_92 cx.1.2.2.2.2 ⟨Nat.le_of_ble_eq_true rfl, Nat.le_of_ble_eq_true rfl⟩) (x_recv cx hw (ci := 4) rfl 0 rfl) (Ct.inl _ (Ct.all (XC_ll ..)) (XC_ll ..)) hl.1 rfl rfl (Nat.le_of_ble_eq_true rfl) dL_law_811 ⟨Nat.le_of_ble_eq_true rfl, Nat.le_of_ble_eq_true rfl⟩ (st1 := [.int r]) rfl (fun H locs hw => ?_)
  refine lv_aload_n hx hb dL_law_814 rfl (lv_at hl 2 rfl) ?_
  refine lw_arg C hL hw hl 1 (by omega) (by decide) dL_law_815 dL_law_816 dL_law_817 dL_law_818 dL_law_819 ?_
  refine c_V (As := [.int (xs (i + 1))]) (rest := [.int r]) (w' := XC g q x2 ++ MC g q2 y2) cx hw (c_X5_living l g q2 N (xs (i + 1)) y r y2 e2) (cl_L_95 cx.1.2.2.2.2 ⟨Nat.le_of_ble_eq_true rfl, Nat.le_of_ble_eq_true rfl⟩) (x_recv cx hw (ci := 5) rfl 53 rfl) (Ct.skip _ (Ct.all (MC_ll ..))) hl.1 rfl rfl (Nat.le_of_ble_eq_true rfl) dL_law_820 ⟨Nat.le_of_ble_eq_true rfl, Nat.le_of_ble_eq_true rfl⟩ (st1 := [.int r, .int r]) rfl (fun H locs hw => ?_)
  exact lv_icmp_eq (tgt := 1554) hx hb dL_law_823 (by decide) (fun _ => kk x2 y2 H locs hs2 hw) (fun h => absurd rfl h)
set_option maxHeartbeats 4000000 in
set_option maxRecDepth 100000 in
theorem lw_rich (C : LC p s m c b L xs g A) (hL : L ≤ 3072) (hN : 5000 ≤ N) (hi : i + 6 ≤ L) {x : XD} {y : MD} (hs : Sys x y) (hw : Wd g A (XC g q x ++ MC g q2 y) s H locs) (hl : lv_has ls 4 [(0, .ref b), (1, .ref (q 0)), (2, .ref (q2 0)), (3, .int (nI i))]) (kk : ∀ (x2 : XD) (y2 : MD) (H2 : Heap) (locs2 : List Loc), Sys x2 y2 → Wd g A (XC g q x2 ++ MC g q2 y2) s H2 locs2 → W p l e room_1 s m #[Value.ref b] below meth c H2 locs2 63 1977 Q (F0 m 1554 ls [])) : W p l e room_1 s m #[Value.ref b] below meth c H locs 63 1977 Q (F0 m 828 ls []) := by
  have cx := C.1
  have hx := cx.1.1
  have hb := cx.1.2.1
  obtain ⟨r, x2, y2, e1, e2, hs2⟩ := op_rich (N := N) hN hs (xs (i + 1))
  refine lv_aload_n hx hb dL_law_828 rfl (lv_at hl 1 rfl) ?_
  refine lw_arg C hL hw hl 1 (by omega) (by decide) dL_law_829 dL_law_830 dL_law_831 dL_law_832 dL_law_833 ?_
  refine c_V (As := [.int (xs (i + 1))]) (rest := []) (w' := XC g q x2 ++ MC g q2 y) cx hw (c_X4_rich l g q N (xs (i + 1)) x r x2 e1) (cl_L_96 cx.1.2.2.2.2 ⟨Nat.le_of_ble_eq_true rfl, Nat.le_of_ble_eq_true rfl⟩) (x_recv cx hw (ci := 4) rfl 0 rfl) (Ct.inl _ (Ct.all (XC_ll ..)) (XC_ll ..)) hl.1 rfl rfl (Nat.le_of_ble_eq_true rfl) dL_law_834 ⟨Nat.le_of_ble_eq_true rfl, Nat.le_of_ble_eq_true rfl⟩ (st1 := [.int r]) rfl (fun H locs hw => ?_)
  refine lv_aload_n hx hb dL_law_837 rfl (lv_at hl 2 rfl) ?_
  refine lw_arg C hL hw hl 1 (by omega) (by decide) dL_law_838 dL_law_839 dL_law_840 dL_law_841 dL_law_842 ?_
  refine c_V (As := [.int (xs (i + 1))]) (rest := [.int r]) (w' := XC g q x2 ++ MC g q2 y2) cx hw (c_X5_rich l g q2 N (xs (i + 1)) y r y2 e2) (cl_L_99 cx.1.2.2.2.2 ⟨Nat.le_of_ble_eq_true rfl, Nat.le_of_ble_eq_true rfl⟩) (x_recv cx hw (ci := 5) rfl 53 rfl) (Ct.skip _ (Ct.all (MC_ll ..))) hl.1 rfl rfl (Nat.le_of_ble_eq_true rfl) dL_law_843 ⟨Nat.le_of_ble_eq_true rfl, Nat.le_of_ble_eq_true rfl⟩ (st1 := [.int r, .int r]) rfl (fun H locs hw => ?_)
  exact lv_icmp_eq (tgt := 1554) hx hb dL_law_846 (by decide) (fun _ => kk x2 y2 H locs hs2 hw) (fun h => absurd rfl h)
set_option maxHeartbeats 4000000 in
set_option maxRecDepth 100000 in
theorem lw_when (C : LC p s m c b L xs g A) (hL : L ≤ 3072) (hN : 5000 ≤ N) (hi : i + 6 ≤ L) {x : XD} {y : MD} (hs : Sys x y) (hw : Wd g A (XC g q x ++ MC g q2 y) s H locs) (hl : lv_has ls 4 [(0, .ref b), (1, .ref (q 0)), (2, .ref (q2 0)), (3, .int (nI i))]) (kk : ∀ (x2 : XD) (y2 : MD) (H2 : Heap) (locs2 : List Loc), Sys x2 y2 → Wd g A (XC g q x2 ++ MC g q2 y2) s H2 locs2 → W p l e room_1 s m #[Value.ref b] below meth c H2 locs2 63 1977 Q (F0 m 1554 ls [])) : W p l e room_1 s m #[Value.ref b] below meth c H locs 63 1977 Q (F0 m 851 ls []) := by
  have cx := C.1
  have hx := cx.1.1
  have hb := cx.1.2.1
  obtain ⟨r, x2, y2, e1, e2, hs2⟩ := op_when (N := N) hN hs (xs (i + 1))
  refine lv_aload_n hx hb dL_law_851 rfl (lv_at hl 1 rfl) ?_
  refine lw_arg C hL hw hl 1 (by omega) (by decide) dL_law_852 dL_law_853 dL_law_854 dL_law_855 dL_law_856 ?_
  refine c_V (As := [.int (xs (i + 1))]) (rest := []) (w' := XC g q x2 ++ MC g q2 y) cx hw (c_X4_when l g q N (xs (i + 1)) x r x2 e1) (cl_L_100 cx.1.2.2.2.2 ⟨Nat.le_of_ble_eq_true rfl, Nat.le_of_ble_eq_true rfl⟩) (x_recv cx hw (ci := 4) rfl 0 rfl) (Ct.inl _ (Ct.all (XC_ll ..)) (XC_ll ..)) hl.1 rfl rfl (Nat.le_of_ble_eq_true rfl) dL_law_857 ⟨Nat.le_of_ble_eq_true rfl, Nat.le_of_ble_eq_true rfl⟩ (st1 := [.int r]) rfl (fun H locs hw => ?_)
  refine lv_aload_n hx hb dL_law_860 rfl (lv_at hl 2 rfl) ?_
  refine lw_arg C hL hw hl 1 (by omega) (by decide) dL_law_861 dL_law_862 dL_law_863 dL_law_864 dL_law_865 ?_
  refine c_V (As := [.int (xs (i + 1))]) (rest := [.int r]) (w' := XC g q x2 ++ MC g q2 y2) cx hw (c_X5_when l g q2 N (xs (i + 1)) y r y2 e2) (cl_L_103 cx.1.2.2.2.2 ⟨Nat.le_of_ble_eq_true rfl, Nat.le_of_ble_eq_true rfl⟩) (x_recv cx hw (ci := 5) rfl 53 rfl) (Ct.skip _ (Ct.all (MC_ll ..))) hl.1 rfl rfl (Nat.le_of_ble_eq_true rfl) dL_law_866 ⟨Nat.le_of_ble_eq_true rfl, Nat.le_of_ble_eq_true rfl⟩ (st1 := [.int r, .int r]) rfl (fun H locs hw => ?_)
  exact lv_icmp_eq (tgt := 1554) hx hb dL_law_869 (by decide) (fun _ => kk x2 y2 H locs hs2 hw) (fun h => absurd rfl h)
set_option maxHeartbeats 4000000 in
set_option maxRecDepth 100000 in
theorem lw_gets (C : LC p s m c b L xs g A) (hL : L ≤ 3072) (hN : 5000 ≤ N) (hi : i + 6 ≤ L) {x : XD} {y : MD} (hs : Sys x y) (hw : Wd g A (XC g q x ++ MC g q2 y) s H locs) (hl : lv_has ls 4 [(0, .ref b), (1, .ref (q 0)), (2, .ref (q2 0)), (3, .int (nI i))]) (kk : ∀ (x2 : XD) (y2 : MD) (H2 : Heap) (locs2 : List Loc), Sys x2 y2 → Wd g A (XC g q x2 ++ MC g q2 y2) s H2 locs2 → W p l e room_1 s m #[Value.ref b] below meth c H2 locs2 63 1977 Q (F0 m 1554 ls [])) : W p l e room_1 s m #[Value.ref b] below meth c H locs 63 1977 Q (F0 m 874 ls []) := by
  have cx := C.1
  have hx := cx.1.1
  have hb := cx.1.2.1
  obtain ⟨r, x2, y2, e1, e2, hs2⟩ := op_gets (N := N) hN hs (xs (i + 1))
  refine lv_aload_n hx hb dL_law_874 rfl (lv_at hl 1 rfl) ?_
  refine lw_arg C hL hw hl 1 (by omega) (by decide) dL_law_875 dL_law_876 dL_law_877 dL_law_878 dL_law_879 ?_
  refine c_V (As := [.int (xs (i + 1))]) (rest := []) (w' := XC g q x2 ++ MC g q2 y) cx hw (c_X4_gets l g q N (xs (i + 1)) x r x2 e1) (cl_L_104 cx.1.2.2.2.2 ⟨Nat.le_of_ble_eq_true rfl, Nat.le_of_ble_eq_true rfl⟩) (x_recv cx hw (ci := 4) rfl 0 rfl) (Ct.inl _ (Ct.all (XC_ll ..)) (XC_ll ..)) hl.1 rfl rfl (Nat.le_of_ble_eq_true rfl) dL_law_880 ⟨Nat.le_of_ble_eq_true rfl, Nat.le_of_ble_eq_true rfl⟩ (st1 := [.int r]) rfl (fun H locs hw => ?_)
  refine lv_aload_n hx hb dL_law_883 rfl (lv_at hl 2 rfl) ?_
  refine lw_arg C hL hw hl 1 (by omega) (by decide) dL_law_884 dL_law_885 dL_law_886 dL_law_887 dL_law_888 ?_
  refine c_V (As := [.int (xs (i + 1))]) (rest := [.int r]) (w' := XC g q x2 ++ MC g q2 y2) cx hw (c_X5_gets l g q2 N (xs (i + 1)) y r y2 e2) (cl_L_107 cx.1.2.2.2.2 ⟨Nat.le_of_ble_eq_true rfl, Nat.le_of_ble_eq_true rfl⟩) (x_recv cx hw (ci := 5) rfl 53 rfl) (Ct.skip _ (Ct.all (MC_ll ..))) hl.1 rfl rfl (Nat.le_of_ble_eq_true rfl) dL_law_889 ⟨Nat.le_of_ble_eq_true rfl, Nat.le_of_ble_eq_true rfl⟩ (st1 := [.int r, .int r]) rfl (fun H locs hw => ?_)
  exact lv_icmp_eq (tgt := 1554) hx hb dL_law_892 (by decide) (fun _ => kk x2 y2 H locs hs2 hw) (fun h => absurd rfl h)
set_option maxHeartbeats 4000000 in
set_option maxRecDepth 100000 in
theorem lw_change (C : LC p s m c b L xs g A) (hL : L ≤ 3072) (hN : 5000 ≤ N) (hi : i + 6 ≤ L) {x : XD} {y : MD} (hs : Sys x y) (hw : Wd g A (XC g q x ++ MC g q2 y) s H locs) (hl : lv_has ls 4 [(0, .ref b), (1, .ref (q 0)), (2, .ref (q2 0)), (3, .int (nI i))]) (kk : ∀ (x2 : XD) (y2 : MD) (H2 : Heap) (locs2 : List Loc), Sys x2 y2 → Wd g A (XC g q x2 ++ MC g q2 y2) s H2 locs2 → W p l e room_1 s m #[Value.ref b] below meth c H2 locs2 63 1977 Q (F0 m 1554 ls [])) : W p l e room_1 s m #[Value.ref b] below meth c H locs 63 1977 Q (F0 m 897 ls []) := by
  have cx := C.1
  have hx := cx.1.1
  have hb := cx.1.2.1
  obtain ⟨r, x2, y2, e1, e2, hs2⟩ := op_change (N := N) hN hs (xs (i + 1)) (xs (i + 2))
  refine lv_aload_n hx hb dL_law_897 rfl (lv_at hl 1 rfl) ?_
  refine lw_arg C hL hw hl 1 (by omega) (by decide) dL_law_898 dL_law_899 dL_law_900 dL_law_901 dL_law_902 ?_
  refine lw_arg C hL hw hl 2 (by omega) (by decide) dL_law_903 dL_law_904 dL_law_905 dL_law_906 dL_law_907 ?_
  refine c_V (As := [.int (xs (i + 1)), .int (xs (i + 2))]) (rest := []) (w' := XC g q x2 ++ MC g q2 y) cx hw (c_X4_change l g q N (xs (i + 1)) (xs (i + 2)) x r x2 e1) (cl_L_108 cx.1.2.2.2.2 ⟨Nat.le_of_ble_eq_true rfl, Nat.le_of_ble_eq_true rfl⟩) (x_recv cx hw (ci := 4) rfl 0 rfl) (Ct.inl _ (Ct.all (XC_ll ..)) (XC_ll ..)) hl.1 rfl rfl (Nat.le_of_ble_eq_true rfl) dL_law_908 ⟨Nat.le_of_ble_eq_true rfl, Nat.le_of_ble_eq_true rfl⟩ (st1 := [.int r]) rfl (fun H locs hw => ?_)
  refine lv_aload_n hx hb dL_law_911 rfl (lv_at hl 2 rfl) ?_
  refine lw_arg C hL hw hl 1 (by omega) (by decide) dL_law_912 dL_law_913 dL_law_914 dL_law_915 dL_law_916 ?_
  refine lw_arg C hL hw hl 2 (by omega) (by decide) dL_law_917 dL_law_918 dL_law_919 dL_law_920 dL_law_921 ?_
  refine c_V (As := [.int (xs (i + 1)), .int (xs (i + 2))]) (rest := [.int r]) (w' := XC g q x2 ++ MC g q2 y2) cx hw (c_X5_change l g q2 N (xs (i + 1)) (xs (i + 2)) y r y2 e2) (cl_L_111 cx.1.2.2.2.2 ⟨Nat.le_of_ble_eq_true rfl, Nat.le_of_ble_eq_true rfl⟩) (x_recv cx hw (ci := 5) rfl 53 rfl) (Ct.skip _ (Ct.all (MC_ll ..))) hl.1 rfl rfl (Nat.le_of_ble_eq_true rfl) dL_law_922 ⟨Nat.le_of_ble_eq_true rfl, Nat.le_of_ble_eq_true rfl⟩ (st1 := [.int r, .int r]) rfl (fun H locs hw => ?_)
  exact lv_icmp_eq (tgt := 1554) hx hb dL_law_925 (by decide) (fun _ => kk x2 y2 H locs hs2 hw) (fun h => absurd rfl h)
set_option maxHeartbeats 4000000 in
set_option maxRecDepth 100000 in
theorem lw_fewest (C : LC p s m c b L xs g A) (hL : L ≤ 3072) (hN : 5000 ≤ N) (hi : i + 6 ≤ L) {x : XD} {y : MD} (hs : Sys x y) (hw : Wd g A (XC g q x ++ MC g q2 y) s H locs) (hl : lv_has ls 4 [(0, .ref b), (1, .ref (q 0)), (2, .ref (q2 0)), (3, .int (nI i))]) (kk : ∀ (x2 : XD) (y2 : MD) (H2 : Heap) (locs2 : List Loc), Sys x2 y2 → Wd g A (XC g q x2 ++ MC g q2 y2) s H2 locs2 → W p l e room_1 s m #[Value.ref b] below meth c H2 locs2 63 1977 Q (F0 m 1554 ls [])) : W p l e room_1 s m #[Value.ref b] below meth c H locs 63 1977 Q (F0 m 930 ls []) := by
  have cx := C.1
  have hx := cx.1.1
  have hb := cx.1.2.1
  obtain ⟨r, x2, y2, e1, e2, hs2⟩ := op_fewest (N := N) hN hs (xs (i + 1)) (xs (i + 2))
  refine lv_aload_n hx hb dL_law_930 rfl (lv_at hl 1 rfl) ?_
  refine lw_arg C hL hw hl 1 (by omega) (by decide) dL_law_931 dL_law_932 dL_law_933 dL_law_934 dL_law_935 ?_
  refine lw_arg C hL hw hl 2 (by omega) (by decide) dL_law_936 dL_law_937 dL_law_938 dL_law_939 dL_law_940 ?_
  refine c_V (As := [.int (xs (i + 1)), .int (xs (i + 2))]) (rest := []) (w' := XC g q x2 ++ MC g q2 y) cx hw (c_X4_fewest l g q N (xs (i + 1)) (xs (i + 2)) x r x2 e1) (cl_L_112 cx.1.2.2.2.2 ⟨Nat.le_of_ble_eq_true rfl, Nat.le_of_ble_eq_true rfl⟩) (x_recv cx hw (ci := 4) rfl 0 rfl) (Ct.inl _ (Ct.all (XC_ll ..)) (XC_ll ..)) hl.1 rfl rfl (Nat.le_of_ble_eq_true rfl) dL_law_941 ⟨Nat.le_of_ble_eq_true rfl, Nat.le_of_ble_eq_true rfl⟩ (st1 := [.int r]) rfl (fun H locs hw => ?_)
  refine lv_aload_n hx hb dL_law_944 rfl (lv_at hl 2 rfl) ?_
  refine lw_arg C hL hw hl 1 (by omega) (by decide) dL_law_945 dL_law_946 dL_law_947 dL_law_948 dL_law_949 ?_
  refine lw_arg C hL hw hl 2 (by omega) (by decide) dL_law_950 dL_law_951 dL_law_952 dL_law_953 dL_law_954 ?_
  refine c_V (As := [.int (xs (i + 1)), .int (xs (i + 2))]) (rest := [.int r]) (w' := XC g q x2 ++ MC g q2 y2) cx hw (c_X5_fewest l g q2 N (xs (i + 1)) (xs (i + 2)) y r y2 e2) (cl_L_115 cx.1.2.2.2.2 ⟨Nat.le_of_ble_eq_true rfl, Nat.le_of_ble_eq_true rfl⟩) (x_recv cx hw (ci := 5) rfl 53 rfl) (Ct.skip _ (Ct.all (MC_ll ..))) hl.1 rfl rfl (Nat.le_of_ble_eq_true rfl) dL_law_955 ⟨Nat.le_of_ble_eq_true rfl, Nat.le_of_ble_eq_true rfl⟩ (st1 := [.int r, .int r]) rfl (fun H locs hw => ?_)
  exact lv_icmp_eq (tgt := 1554) hx hb dL_law_958 (by decide) (fun _ => kk x2 y2 H locs hs2 hw) (fun h => absurd rfl h)
set_option maxHeartbeats 4000000 in
set_option maxRecDepth 100000 in
theorem lw_worth (C : LC p s m c b L xs g A) (hL : L ≤ 3072) (hN : 5000 ≤ N) (hi : i + 6 ≤ L) {x : XD} {y : MD} (hs : Sys x y) (hw : Wd g A (XC g q x ++ MC g q2 y) s H locs) (hl : lv_has ls 4 [(0, .ref b), (1, .ref (q 0)), (2, .ref (q2 0)), (3, .int (nI i))]) (kk : ∀ (x2 : XD) (y2 : MD) (H2 : Heap) (locs2 : List Loc), Sys x2 y2 → Wd g A (XC g q x2 ++ MC g q2 y2) s H2 locs2 → W p l e room_1 s m #[Value.ref b] below meth c H2 locs2 63 1977 Q (F0 m 1554 ls [])) : W p l e room_1 s m #[Value.ref b] below meth c H locs 63 1977 Q (F0 m 963 ls []) := by
  have cx := C.1
  have hx := cx.1.1
  have hb := cx.1.2.1
  obtain ⟨r, x2, y2, e1, e2, hs2⟩ := op_worth (N := N) hN hs (xs (i + 1)) (xs (i + 2))
  refine lv_aload_n hx hb dL_law_963 rfl (lv_at hl 1 rfl) ?_
  refine lw_arg C hL hw hl 1 (by omega) (by decide) dL_law_964 dL_law_965 dL_law_966 dL_law_967 dL_law_968 ?_
  refine lw_arg C hL hw hl 2 (by omega) (by decide) dL_law_969 dL_law_970 dL_law_971 dL_law_972 dL_law_973 ?_
  refine c_V (As := [.int (xs (i + 1)), .int (xs (i + 2))]) (rest := []) (w' := XC g q x2 ++ MC g q2 y) cx hw (c_X4_worth l g q N (xs (i + 1)) (xs (i + 2)) x r x2 e1) (cl_L_116 cx.1.2.2.2.2 ⟨Nat.le_of_ble_eq_true rfl, Nat.le_of_ble_eq_true rfl⟩) (x_recv cx hw (ci := 4) rfl 0 rfl) (Ct.inl _ (Ct.all (XC_ll ..)) (XC_ll ..)) hl.1 rfl rfl (Nat.le_of_ble_eq_true rfl) dL_law_974 ⟨Nat.le_of_ble_eq_true rfl, Nat.le_of_ble_eq_true rfl⟩ (st1 := [.int r]) rfl (fun H locs hw => ?_)
  refine lv_aload_n hx hb dL_law_977 rfl (lv_at hl 2 rfl) ?_
  refine lw_arg C hL hw hl 1 (by omega) (by decide) dL_law_978 dL_law_979 dL_law_980 dL_law_981 dL_law_982 ?_
  refine lw_arg C hL hw hl 2 (by omega) (by decide) dL_law_983 dL_law_984 dL_law_985 dL_law_986 dL_law_987 ?_
  refine c_V (As := [.int (xs (i + 1)), .int (xs (i + 2))]) (rest := [.int r]) (w' := XC g q x2 ++ MC g q2 y2) cx hw (c_X5_worth l g q2 N (xs (i + 1)) (xs (i + 2)) y r y2 e2) (cl_L_119 cx.1.2.2.2.2 ⟨Nat.le_of_ble_eq_true rfl, Nat.le_of_ble_eq_true rfl⟩) (x_recv cx hw (ci := 5) rfl 53 rfl) (Ct.skip _ (Ct.all (MC_ll ..))) hl.1 rfl rfl (Nat.le_of_ble_eq_true rfl) dL_law_988 ⟨Nat.le_of_ble_eq_true rfl, Nat.le_of_ble_eq_true rfl⟩ (st1 := [.int r, .int r]) rfl (fun H locs hw => ?_)
  exact lv_icmp_eq (tgt := 1554) hx hb dL_law_991 (by decide) (fun _ => kk x2 y2 H locs hs2 hw) (fun h => absurd rfl h)
set_option maxHeartbeats 4000000 in
set_option maxRecDepth 100000 in
theorem lw_best (C : LC p s m c b L xs g A) (hL : L ≤ 3072) (hN : 5000 ≤ N) (hi : i + 6 ≤ L) {x : XD} {y : MD} (hs : Sys x y) (hw : Wd g A (XC g q x ++ MC g q2 y) s H locs) (hl : lv_has ls 4 [(0, .ref b), (1, .ref (q 0)), (2, .ref (q2 0)), (3, .int (nI i))]) (kk : ∀ (x2 : XD) (y2 : MD) (H2 : Heap) (locs2 : List Loc), Sys x2 y2 → Wd g A (XC g q x2 ++ MC g q2 y2) s H2 locs2 → W p l e room_1 s m #[Value.ref b] below meth c H2 locs2 63 1977 Q (F0 m 1554 ls [])) : W p l e room_1 s m #[Value.ref b] below meth c H locs 63 1977 Q (F0 m 996 ls []) := by
  have cx := C.1
  have hx := cx.1.1
  have hb := cx.1.2.1
  obtain ⟨r, x2, y2, e1, e2, hs2⟩ := op_best (N := N) hN hs (xs (i + 1))
  refine lv_aload_n hx hb dL_law_996 rfl (lv_at hl 1 rfl) ?_
  refine lw_arg C hL hw hl 1 (by omega) (by decide) dL_law_997 dL_law_998 dL_law_999 dL_law_1000 dL_law_1001 ?_
  refine c_V (As := [.int (xs (i + 1))]) (rest := []) (w' := XC g q x2 ++ MC g q2 y) cx hw (c_X4_best l g q N (xs (i + 1)) x r x2 e1) (cl_L_120 cx.1.2.2.2.2 ⟨Nat.le_of_ble_eq_true rfl, Nat.le_of_ble_eq_true rfl⟩) (x_recv cx hw (ci := 4) rfl 0 rfl) (Ct.inl _ (Ct.all (XC_ll ..)) (XC_ll ..)) hl.1 rfl rfl (Nat.le_of_ble_eq_true rfl) dL_law_1002 ⟨Nat.le_of_ble_eq_true rfl, Nat.le_of_ble_eq_true rfl⟩ (st1 := [.int r]) rfl (fun H locs hw => ?_)
  refine lv_aload_n hx hb dL_law_1005 rfl (lv_at hl 2 rfl) ?_
  refine lw_arg C hL hw hl 1 (by omega) (by decide) dL_law_1006 dL_law_1007 dL_law_1008 dL_law_1009 dL_law_1010 ?_
  refine c_V (As := [.int (xs (i + 1))]) (rest := [.int r]) (w' := XC g q x2 ++ MC g q2 y2) cx hw (c_X5_best l g q2 N (xs (i + 1)) y r y2 e2) (cl_L_123 cx.1.2.2.2.2 ⟨Nat.le_of_ble_eq_true rfl, Nat.le_of_ble_eq_true rfl⟩) (x_recv cx hw (ci := 5) rfl 53 rfl) (Ct.skip _ (Ct.all (MC_ll ..))) hl.1 rfl rfl (Nat.le_of_ble_eq_true rfl) dL_law_1011 ⟨Nat.le_of_ble_eq_true rfl, Nat.le_of_ble_eq_true rfl⟩ (st1 := [.int r, .int r]) rfl (fun H locs hw => ?_)
  exact lv_icmp_eq (tgt := 1554) hx hb dL_law_1014 (by decide) (fun _ => kk x2 y2 H locs hs2 hw) (fun h => absurd rfl h)
set_option maxHeartbeats 4000000 in
set_option maxRecDepth 100000 in
theorem lw_steer (C : LC p s m c b L xs g A) (hL : L ≤ 3072) (hN : 5000 ≤ N) (hi : i + 6 ≤ L) {x : XD} {y : MD} (hs : Sys x y) (hw : Wd g A (XC g q x ++ MC g q2 y) s H locs) (hl : lv_has ls 4 [(0, .ref b), (1, .ref (q 0)), (2, .ref (q2 0)), (3, .int (nI i))]) (kk : ∀ (x2 : XD) (y2 : MD) (H2 : Heap) (locs2 : List Loc), Sys x2 y2 → Wd g A (XC g q x2 ++ MC g q2 y2) s H2 locs2 → W p l e room_1 s m #[Value.ref b] below meth c H2 locs2 63 1977 Q (F0 m 1554 ls [])) : W p l e room_1 s m #[Value.ref b] below meth c H locs 63 1977 Q (F0 m 1019 ls []) := by
  have cx := C.1
  have hx := cx.1.1
  have hb := cx.1.2.1
  obtain ⟨r, x2, y2, e1, e2, hs2⟩ := op_steer (N := N) hN hs (xs (i + 1)) (xs (i + 2))
  refine lv_aload_n hx hb dL_law_1019 rfl (lv_at hl 1 rfl) ?_
  refine lw_arg C hL hw hl 1 (by omega) (by decide) dL_law_1020 dL_law_1021 dL_law_1022 dL_law_1023 dL_law_1024 ?_
  refine lw_arg C hL hw hl 2 (by omega) (by decide) dL_law_1025 dL_law_1026 dL_law_1027 dL_law_1028 dL_law_1029 ?_
  refine c_V (As := [.int (xs (i + 1)), .int (xs (i + 2))]) (rest := []) (w' := XC g q x2 ++ MC g q2 y) cx hw (c_X4_steer l g q N (xs (i + 1)) (xs (i + 2)) x r x2 e1) (cl_L_124 cx.1.2.2.2.2 ⟨Nat.le_of_ble_eq_true rfl, Nat.le_of_ble_eq_true rfl⟩) (x_recv cx hw (ci := 4) rfl 0 rfl) (Ct.inl _ (Ct.all (XC_ll ..)) (XC_ll ..)) hl.1 rfl rfl (Nat.le_of_ble_eq_true rfl) dL_law_1030 ⟨Nat.le_of_ble_eq_true rfl, Nat.le_of_ble_eq_true rfl⟩ (st1 := [.int r]) rfl (fun H locs hw => ?_)
  refine lv_aload_n hx hb dL_law_1033 rfl (lv_at hl 2 rfl) ?_
  refine lw_arg C hL hw hl 1 (by omega) (by decide) dL_law_1034 dL_law_1035 dL_law_1036 dL_law_1037 dL_law_1038 ?_
  refine lw_arg C hL hw hl 2 (by omega) (by decide) dL_law_1039 dL_law_1040 dL_law_1041 dL_law_1042 dL_law_1043 ?_
  refine c_V (As := [.int (xs (i + 1)), .int (xs (i + 2))]) (rest := [.int r]) (w' := XC g q x2 ++ MC g q2 y2) cx hw (c_X5_steer l g q2 N (xs (i + 1)) (xs (i + 2)) y r y2 e2) (cl_L_127 cx.1.2.2.2.2 ⟨Nat.le_of_ble_eq_true rfl, Nat.le_of_ble_eq_true rfl⟩) (x_recv cx hw (ci := 5) rfl 53 rfl) (Ct.skip _ (Ct.all (MC_ll ..))) hl.1 rfl rfl (Nat.le_of_ble_eq_true rfl) dL_law_1044 ⟨Nat.le_of_ble_eq_true rfl, Nat.le_of_ble_eq_true rfl⟩ (st1 := [.int r, .int r]) rfl (fun H locs hw => ?_)
  exact lv_icmp_eq (tgt := 1554) hx hb dL_law_1047 (by decide) (fun _ => kk x2 y2 H locs hs2 hw) (fun h => absurd rfl h)
set_option maxHeartbeats 4000000 in
set_option maxRecDepth 100000 in
theorem lw_kind (C : LC p s m c b L xs g A) (hL : L ≤ 3072) (hN : 5000 ≤ N) (hi : i + 6 ≤ L) {x : XD} {y : MD} (hs : Sys x y) (hw : Wd g A (XC g q x ++ MC g q2 y) s H locs) (hl : lv_has ls 4 [(0, .ref b), (1, .ref (q 0)), (2, .ref (q2 0)), (3, .int (nI i))]) (kk : ∀ (x2 : XD) (y2 : MD) (H2 : Heap) (locs2 : List Loc), Sys x2 y2 → Wd g A (XC g q x2 ++ MC g q2 y2) s H2 locs2 → W p l e room_1 s m #[Value.ref b] below meth c H2 locs2 63 1977 Q (F0 m 1554 ls [])) : W p l e room_1 s m #[Value.ref b] below meth c H locs 63 1977 Q (F0 m 1052 ls []) := by
  have cx := C.1
  have hx := cx.1.1
  have hb := cx.1.2.1
  obtain ⟨r, x2, y2, e1, e2, hs2⟩ := op_kind (N := N) hN hs (xs (i + 1)) (xs (i + 2))
  refine lv_aload_n hx hb dL_law_1052 rfl (lv_at hl 1 rfl) ?_
  refine lw_arg C hL hw hl 1 (by omega) (by decide) dL_law_1053 dL_law_1054 dL_law_1055 dL_law_1056 dL_law_1057 ?_
  refine lw_arg C hL hw hl 2 (by omega) (by decide) dL_law_1058 dL_law_1059 dL_law_1060 dL_law_1061 dL_law_1062 ?_
  refine c_V (As := [.int (xs (i + 1)), .int (xs (i + 2))]) (rest := []) (w' := XC g q x2 ++ MC g q2 y) cx hw (c_X4_kind l g q N (xs (i + 1)) (xs (i + 2)) x r x2 e1) (cl_L_128 cx.1.2.2.2.2 ⟨Nat.le_of_ble_eq_true rfl, Nat.le_of_ble_eq_true rfl⟩) (x_recv cx hw (ci := 4) rfl 0 rfl) (Ct.inl _ (Ct.all (XC_ll ..)) (XC_ll ..)) hl.1 rfl rfl (Nat.le_of_ble_eq_true rfl) dL_law_1063 ⟨Nat.le_of_ble_eq_true rfl, Nat.le_of_ble_eq_true rfl⟩ (st1 := [.int r]) rfl (fun H locs hw => ?_)
  refine lv_aload_n hx hb dL_law_1066 rfl (lv_at hl 2 rfl) ?_
  refine lw_arg C hL hw hl 1 (by omega) (by decide) dL_law_1067 dL_law_1068 dL_law_1069 dL_law_1070 dL_law_1071 ?_
  refine lw_arg C hL hw hl 2 (by omega) (by decide) dL_law_1072 dL_law_1073 dL_law_1074 dL_law_1075 dL_law_1076 ?_
  refine c_V (As := [.int (xs (i + 1)), .int (xs (i + 2))]) (rest := [.int r]) (w' := XC g q x2 ++ MC g q2 y2) cx hw (c_X5_kind l g q2 N (xs (i + 1)) (xs (i + 2)) y r y2 e2) (cl_L_131 cx.1.2.2.2.2 ⟨Nat.le_of_ble_eq_true rfl, Nat.le_of_ble_eq_true rfl⟩) (x_recv cx hw (ci := 5) rfl 53 rfl) (Ct.skip _ (Ct.all (MC_ll ..))) hl.1 rfl rfl (Nat.le_of_ble_eq_true rfl) dL_law_1077 ⟨Nat.le_of_ble_eq_true rfl, Nat.le_of_ble_eq_true rfl⟩ (st1 := [.int r, .int r]) rfl (fun H locs hw => ?_)
  exact lv_icmp_eq (tgt := 1554) hx hb dL_law_1080 (by decide) (fun _ => kk x2 y2 H locs hs2 hw) (fun h => absurd rfl h)
set_option maxHeartbeats 4000000 in
set_option maxRecDepth 100000 in
theorem lw_fair (C : LC p s m c b L xs g A) (hL : L ≤ 3072) (hN : 5000 ≤ N) (hi : i + 6 ≤ L) {x : XD} {y : MD} (hs : Sys x y) (hw : Wd g A (XC g q x ++ MC g q2 y) s H locs) (hl : lv_has ls 4 [(0, .ref b), (1, .ref (q 0)), (2, .ref (q2 0)), (3, .int (nI i))]) (kk : ∀ (x2 : XD) (y2 : MD) (H2 : Heap) (locs2 : List Loc), Sys x2 y2 → Wd g A (XC g q x2 ++ MC g q2 y2) s H2 locs2 → W p l e room_1 s m #[Value.ref b] below meth c H2 locs2 63 1977 Q (F0 m 1554 ls [])) : W p l e room_1 s m #[Value.ref b] below meth c H locs 63 1977 Q (F0 m 1085 ls []) := by
  have cx := C.1
  have hx := cx.1.1
  have hb := cx.1.2.1
  obtain ⟨r, x2, y2, e1, e2, hs2⟩ := op_fair (N := N) hN hs (xs (i + 1))
  refine lv_aload_n hx hb dL_law_1085 rfl (lv_at hl 1 rfl) ?_
  refine lw_arg C hL hw hl 1 (by omega) (by decide) dL_law_1086 dL_law_1087 dL_law_1088 dL_law_1089 dL_law_1090 ?_
  refine c_V (As := [.int (xs (i + 1))]) (rest := []) (w' := XC g q x2 ++ MC g q2 y) cx hw (c_X4_fair l g q N (xs (i + 1)) x r x2 e1) (cl_L_132 cx.1.2.2.2.2 ⟨Nat.le_of_ble_eq_true rfl, Nat.le_of_ble_eq_true rfl⟩) (x_recv cx hw (ci := 4) rfl 0 rfl) (Ct.inl _ (Ct.all (XC_ll ..)) (XC_ll ..)) hl.1 rfl rfl (Nat.le_of_ble_eq_true rfl) dL_law_1091 ⟨Nat.le_of_ble_eq_true rfl, Nat.le_of_ble_eq_true rfl⟩ (st1 := [.int r]) rfl (fun H locs hw => ?_)
  refine lv_aload_n hx hb dL_law_1094 rfl (lv_at hl 2 rfl) ?_
  refine lw_arg C hL hw hl 1 (by omega) (by decide) dL_law_1095 dL_law_1096 dL_law_1097 dL_law_1098 dL_law_1099 ?_
  refine c_V (As := [.int (xs (i + 1))]) (rest := [.int r]) (w' := XC g q x2 ++ MC g q2 y2) cx hw (c_X5_fair l g q2 N (xs (i + 1)) y r y2 e2) (cl_L_135 cx.1.2.2.2.2 ⟨Nat.le_of_ble_eq_true rfl, Nat.le_of_ble_eq_true rfl⟩) (x_recv cx hw (ci := 5) rfl 53 rfl) (Ct.skip _ (Ct.all (MC_ll ..))) hl.1 rfl rfl (Nat.le_of_ble_eq_true rfl) dL_law_1100 ⟨Nat.le_of_ble_eq_true rfl, Nat.le_of_ble_eq_true rfl⟩ (st1 := [.int r, .int r]) rfl (fun H locs hw => ?_)
  exact lv_icmp_eq (tgt := 1554) hx hb dL_law_1103 (by decide) (fun _ => kk x2 y2 H locs hs2 hw) (fun h => absurd rfl h)
set_option maxHeartbeats 4000000 in
set_option maxRecDepth 100000 in
theorem lw_ways (C : LC p s m c b L xs g A) (hL : L ≤ 3072) (hN : 5000 ≤ N) (hi : i + 6 ≤ L) {x : XD} {y : MD} (hs : Sys x y) (hw : Wd g A (XC g q x ++ MC g q2 y) s H locs) (hl : lv_has ls 4 [(0, .ref b), (1, .ref (q 0)), (2, .ref (q2 0)), (3, .int (nI i))]) (kk : ∀ (x2 : XD) (y2 : MD) (H2 : Heap) (locs2 : List Loc), Sys x2 y2 → Wd g A (XC g q x2 ++ MC g q2 y2) s H2 locs2 → W p l e room_1 s m #[Value.ref b] below meth c H2 locs2 63 1977 Q (F0 m 1554 ls [])) : W p l e room_1 s m #[Value.ref b] below meth c H locs 63 1977 Q (F0 m 1108 ls []) := by
  have cx := C.1
  have hx := cx.1.1
  have hb := cx.1.2.1
  obtain ⟨r, x2, y2, e1, e2, hs2⟩ := op_ways (N := N) hN hs (xs (i + 1)) (xs (i + 2))
  refine lv_aload_n hx hb dL_law_1108 rfl (lv_at hl 1 rfl) ?_
  refine lw_arg C hL hw hl 1 (by omega) (by decide) dL_law_1109 dL_law_1110 dL_law_1111 dL_law_1112 dL_law_1113 ?_
  refine lw_arg C hL hw hl 2 (by omega) (by decide) dL_law_1114 dL_law_1115 dL_law_1116 dL_law_1117 dL_law_1118 ?_
  refine c_V (As := [.int (xs (i + 1)), .int (xs (i + 2))]) (rest := []) (w' := XC g q x2 ++ MC g q2 y) cx hw (c_X4_ways l g q N (xs (i + 1)) (xs (i + 2)) x r x2 e1) (cl_L_136 cx.1.2.2.2.2 ⟨Nat.le_of_ble_eq_true rfl, Nat.le_of_ble_eq_true rfl⟩) (x_recv cx hw (ci := 4) rfl 0 rfl) (Ct.inl _ (Ct.all (XC_ll ..)) (XC_ll ..)) hl.1 rfl rfl (Nat.le_of_ble_eq_true rfl) dL_law_1119 ⟨Nat.le_of_ble_eq_true rfl, Nat.le_of_ble_eq_true rfl⟩ (st1 := [.int r]) rfl (fun H locs hw => ?_)
  refine lv_aload_n hx hb dL_law_1122 rfl (lv_at hl 2 rfl) ?_
  refine lw_arg C hL hw hl 1 (by omega) (by decide) dL_law_1123 dL_law_1124 dL_law_1125 dL_law_1126 dL_law_1127 ?_
  refine lw_arg C hL hw hl 2 (by omega) (by decide) dL_law_1128 dL_law_1129 dL_law_1130 dL_law_1131 dL_law_1132 ?_
  refine c_V (As := [.int (xs (i + 1)), .int (xs (i + 2))]) (rest := [.int r]) (w' := XC g q x2 ++ MC g q2 y2) cx hw (c_X5_ways l g q2 N (xs (i + 1)) (xs (i + 2)) y r y2 e2) (cl_L_139 cx.1.2.2.2.2 ⟨Nat.le_of_ble_eq_true rfl, Nat.le_of_ble_eq_true rfl⟩) (x_recv cx hw (ci := 5) rfl 53 rfl) (Ct.skip _ (Ct.all (MC_ll ..))) hl.1 rfl rfl (Nat.le_of_ble_eq_true rfl) dL_law_1133 ⟨Nat.le_of_ble_eq_true rfl, Nat.le_of_ble_eq_true rfl⟩ (st1 := [.int r, .int r]) rfl (fun H locs hw => ?_)
  exact lv_icmp_eq (tgt := 1554) hx hb dL_law_1136 (by decide) (fun _ => kk x2 y2 H locs hs2 hw) (fun h => absurd rfl h)
set_option maxHeartbeats 4000000 in
set_option maxRecDepth 100000 in
theorem lw_feed (C : LC p s m c b L xs g A) (hL : L ≤ 3072) (hN : 5000 ≤ N) (hi : i + 6 ≤ L) {x : XD} {y : MD} (hs : Sys x y) (hw : Wd g A (XC g q x ++ MC g q2 y) s H locs) (hl : lv_has ls 4 [(0, .ref b), (1, .ref (q 0)), (2, .ref (q2 0)), (3, .int (nI i))]) (kk : ∀ (x2 : XD) (y2 : MD) (H2 : Heap) (locs2 : List Loc), Sys x2 y2 → Wd g A (XC g q x2 ++ MC g q2 y2) s H2 locs2 → W p l e room_1 s m #[Value.ref b] below meth c H2 locs2 63 1977 Q (F0 m 1554 ls [])) : W p l e room_1 s m #[Value.ref b] below meth c H locs 63 1977 Q (F0 m 1141 ls []) := by
  have cx := C.1
  have hx := cx.1.1
  have hb := cx.1.2.1
  obtain ⟨r, x2, y2, e1, e2, hs2⟩ := op_feed (N := N) hN hs (xs (i + 1)) (xs (i + 2))
  refine lv_aload_n hx hb dL_law_1141 rfl (lv_at hl 1 rfl) ?_
  refine lw_arg C hL hw hl 1 (by omega) (by decide) dL_law_1142 dL_law_1143 dL_law_1144 dL_law_1145 dL_law_1146 ?_
  refine lw_arg C hL hw hl 2 (by omega) (by decide) dL_law_1147 dL_law_1148 dL_law_1149 dL_law_1150 dL_law_1151 ?_
  refine c_V (As := [.int (xs (i + 1)), .int (xs (i + 2))]) (rest := []) (w' := XC g q x2 ++ MC g q2 y) cx hw (c_X4_feed l g q N (xs (i + 1)) (xs (i + 2)) x r x2 e1) (cl_L_140 cx.1.2.2.2.2 ⟨Nat.le_of_ble_eq_true rfl, Nat.le_of_ble_eq_true rfl⟩) (x_recv cx hw (ci := 4) rfl 0 rfl) (Ct.inl _ (Ct.all (XC_ll ..)) (XC_ll ..)) hl.1 rfl rfl (Nat.le_of_ble_eq_true rfl) dL_law_1152 ⟨Nat.le_of_ble_eq_true rfl, Nat.le_of_ble_eq_true rfl⟩ (st1 := [.int r]) rfl (fun H locs hw => ?_)
  refine lv_aload_n hx hb dL_law_1155 rfl (lv_at hl 2 rfl) ?_
  refine lw_arg C hL hw hl 1 (by omega) (by decide) dL_law_1156 dL_law_1157 dL_law_1158 dL_law_1159 dL_law_1160 ?_
  refine lw_arg C hL hw hl 2 (by omega) (by decide) dL_law_1161 dL_law_1162 dL_law_1163 dL_law_1164 dL_law_1165 ?_
  refine c_V (As := [.int (xs (i + 1)), .int (xs (i + 2))]) (rest := [.int r]) (w' := XC g q x2 ++ MC g q2 y2) cx hw (c_X5_feed l g q2 N (xs (i + 1)) (xs (i + 2)) y r y2 e2) (cl_L_143 cx.1.2.2.2.2 ⟨Nat.le_of_ble_eq_true rfl, Nat.le_of_ble_eq_true rfl⟩) (x_recv cx hw (ci := 5) rfl 53 rfl) (Ct.skip _ (Ct.all (MC_ll ..))) hl.1 rfl rfl (Nat.le_of_ble_eq_true rfl) dL_law_1166 ⟨Nat.le_of_ble_eq_true rfl, Nat.le_of_ble_eq_true rfl⟩ (st1 := [.int r, .int r]) rfl (fun H locs hw => ?_)
  exact lv_icmp_eq (tgt := 1554) hx hb dL_law_1169 (by decide) (fun _ => kk x2 y2 H locs hs2 hw) (fun h => absurd rfl h)
set_option maxHeartbeats 4000000 in
set_option maxRecDepth 100000 in
theorem lw_wipe (C : LC p s m c b L xs g A) (hL : L ≤ 3072) (hN : 5000 ≤ N) (hi : i + 6 ≤ L) {x : XD} {y : MD} (hs : Sys x y) (hw : Wd g A (XC g q x ++ MC g q2 y) s H locs) (hl : lv_has ls 4 [(0, .ref b), (1, .ref (q 0)), (2, .ref (q2 0)), (3, .int (nI i))]) (kk : ∀ (x2 : XD) (y2 : MD) (H2 : Heap) (locs2 : List Loc), Sys x2 y2 → Wd g A (XC g q x2 ++ MC g q2 y2) s H2 locs2 → W p l e room_1 s m #[Value.ref b] below meth c H2 locs2 63 1977 Q (F0 m 1554 ls [])) : W p l e room_1 s m #[Value.ref b] below meth c H locs 63 1977 Q (F0 m 1174 ls []) := by
  have cx := C.1
  have hx := cx.1.1
  have hb := cx.1.2.1
  obtain ⟨r, x2, y2, e1, e2, hs2⟩ := op_wipe (N := N) hs
  refine lv_aload_n hx hb dL_law_1174 rfl (lv_at hl 1 rfl) ?_
  refine c_V (As := []) (rest := []) (w' := XC g q x2 ++ MC g q2 y) cx hw (c_X4_wipe l g q N x r x2 e1) (cl_L_144 cx.1.2.2.2.2 ⟨Nat.le_of_ble_eq_true rfl, Nat.le_of_ble_eq_true rfl⟩) (x_recv cx hw (ci := 4) rfl 0 rfl) (Ct.inl _ (Ct.all (XC_ll ..)) (XC_ll ..)) hl.1 rfl rfl (Nat.le_of_ble_eq_true rfl) dL_law_1175 ⟨Nat.le_of_ble_eq_true rfl, Nat.le_of_ble_eq_true rfl⟩ (st1 := [.int r]) rfl (fun H locs hw => ?_)
  refine lv_aload_n hx hb dL_law_1178 rfl (lv_at hl 2 rfl) ?_
  refine c_V (As := []) (rest := [.int r]) (w' := XC g q x2 ++ MC g q2 y2) cx hw (c_X5_wipe l g q2 N y r y2 e2) (cl_L_148 cx.1.2.2.2.2 ⟨Nat.le_of_ble_eq_true rfl, Nat.le_of_ble_eq_true rfl⟩) (x_recv cx hw (ci := 5) rfl 53 rfl) (Ct.skip _ (Ct.all (MC_ll ..))) hl.1 rfl rfl (Nat.le_of_ble_eq_true rfl) dL_law_1179 ⟨Nat.le_of_ble_eq_true rfl, Nat.le_of_ble_eq_true rfl⟩ (st1 := [.int r, .int r]) rfl (fun H locs hw => ?_)
  exact lv_icmp_eq (tgt := 1554) hx hb dL_law_1182 (by decide) (fun _ => kk x2 y2 H locs hs2 hw) (fun h => absurd rfl h)
set_option maxHeartbeats 4000000 in
set_option maxRecDepth 100000 in
theorem lw_valley (C : LC p s m c b L xs g A) (hL : L ≤ 3072) (hN : 5000 ≤ N) (hi : i + 6 ≤ L) {x : XD} {y : MD} (hs : Sys x y) (hw : Wd g A (XC g q x ++ MC g q2 y) s H locs) (hl : lv_has ls 4 [(0, .ref b), (1, .ref (q 0)), (2, .ref (q2 0)), (3, .int (nI i))]) (kk : ∀ (x2 : XD) (y2 : MD) (H2 : Heap) (locs2 : List Loc), Sys x2 y2 → Wd g A (XC g q x2 ++ MC g q2 y2) s H2 locs2 → W p l e room_1 s m #[Value.ref b] below meth c H2 locs2 63 1977 Q (F0 m 1554 ls [])) : W p l e room_1 s m #[Value.ref b] below meth c H locs 63 1977 Q (F0 m 1187 ls []) := by
  have cx := C.1
  have hx := cx.1.1
  have hb := cx.1.2.1
  obtain ⟨r, x2, y2, e1, e2, hs2⟩ := op_valley (N := N) hN hs
  refine lv_aload_n hx hb dL_law_1187 rfl (lv_at hl 1 rfl) ?_
  refine c_V (As := []) (rest := []) (w' := XC g q x2 ++ MC g q2 y) cx hw (c_X4_valley l g q N x r x2 e1) (cl_L_149 cx.1.2.2.2.2 ⟨Nat.le_of_ble_eq_true rfl, Nat.le_of_ble_eq_true rfl⟩) (x_recv cx hw (ci := 4) rfl 0 rfl) (Ct.inl _ (Ct.all (XC_ll ..)) (XC_ll ..)) hl.1 rfl rfl (Nat.le_of_ble_eq_true rfl) dL_law_1188 ⟨Nat.le_of_ble_eq_true rfl, Nat.le_of_ble_eq_true rfl⟩ (st1 := [.int r]) rfl (fun H locs hw => ?_)
  refine lv_aload_n hx hb dL_law_1191 rfl (lv_at hl 2 rfl) ?_
  refine c_V (As := []) (rest := [.int r]) (w' := XC g q x2 ++ MC g q2 y2) cx hw (c_X5_valley l g q2 N y r y2 e2) (cl_L_152 cx.1.2.2.2.2 ⟨Nat.le_of_ble_eq_true rfl, Nat.le_of_ble_eq_true rfl⟩) (x_recv cx hw (ci := 5) rfl 53 rfl) (Ct.skip _ (Ct.all (MC_ll ..))) hl.1 rfl rfl (Nat.le_of_ble_eq_true rfl) dL_law_1192 ⟨Nat.le_of_ble_eq_true rfl, Nat.le_of_ble_eq_true rfl⟩ (st1 := [.int r, .int r]) rfl (fun H locs hw => ?_)
  exact lv_icmp_eq (tgt := 1554) hx hb dL_law_1195 (by decide) (fun _ => kk x2 y2 H locs hs2 hw) (fun h => absurd rfl h)
set_option maxHeartbeats 4000000 in
set_option maxRecDepth 100000 in
theorem lw_sheet (C : LC p s m c b L xs g A) (hL : L ≤ 3072) (hN : 5000 ≤ N) (hi : i + 6 ≤ L) {x : XD} {y : MD} (hs : Sys x y) (hw : Wd g A (XC g q x ++ MC g q2 y) s H locs) (hl : lv_has ls 4 [(0, .ref b), (1, .ref (q 0)), (2, .ref (q2 0)), (3, .int (nI i))]) (kk : ∀ (x2 : XD) (y2 : MD) (H2 : Heap) (locs2 : List Loc), Sys x2 y2 → Wd g A (XC g q x2 ++ MC g q2 y2) s H2 locs2 → W p l e room_1 s m #[Value.ref b] below meth c H2 locs2 63 1977 Q (F0 m 1554 ls [])) : W p l e room_1 s m #[Value.ref b] below meth c H locs 63 1977 Q (F0 m 1200 ls []) := by
  have cx := C.1
  have hx := cx.1.1
  have hb := cx.1.2.1
  obtain ⟨r, x2, y2, e1, e2, hs2⟩ := op_sheet (N := N) hN hs (xs (i + 1)) (xs (i + 2)) (xs (i + 3))
  refine lv_aload_n hx hb dL_law_1200 rfl (lv_at hl 1 rfl) ?_
  refine lw_arg C hL hw hl 1 (by omega) (by decide) dL_law_1201 dL_law_1202 dL_law_1203 dL_law_1204 dL_law_1205 ?_
  refine lw_arg C hL hw hl 2 (by omega) (by decide) dL_law_1206 dL_law_1207 dL_law_1208 dL_law_1209 dL_law_1210 ?_
  refine lw_arg C hL hw hl 3 (by omega) (by decide) dL_law_1211 dL_law_1212 dL_law_1213 dL_law_1214 dL_law_1215 ?_
  refine c_V (As := [.int (xs (i + 1)), .int (xs (i + 2)), .int (xs (i + 3))]) (rest := []) (w' := XC g q x2 ++ MC g q2 y) cx hw (c_X4_sheet l g q N (xs (i + 1)) (xs (i + 2)) (xs (i + 3)) x r x2 e1) (cl_L_153 cx.1.2.2.2.2 ⟨Nat.le_of_ble_eq_true rfl, Nat.le_of_ble_eq_true rfl⟩) (x_recv cx hw (ci := 4) rfl 0 rfl) (Ct.inl _ (Ct.all (XC_ll ..)) (XC_ll ..)) hl.1 rfl rfl (Nat.le_of_ble_eq_true rfl) dL_law_1216 ⟨Nat.le_of_ble_eq_true rfl, Nat.le_of_ble_eq_true rfl⟩ (st1 := [.int r]) rfl (fun H locs hw => ?_)
  refine lv_aload_n hx hb dL_law_1219 rfl (lv_at hl 2 rfl) ?_
  refine lw_arg C hL hw hl 1 (by omega) (by decide) dL_law_1220 dL_law_1221 dL_law_1222 dL_law_1223 dL_law_1224 ?_
  refine lw_arg C hL hw hl 2 (by omega) (by decide) dL_law_1225 dL_law_1226 dL_law_1227 dL_law_1228 dL_law_1229 ?_
  refine lw_arg C hL hw hl 3 (by omega) (by decide) dL_law_1230 dL_law_1231 dL_law_1232 dL_law_1233 dL_law_1234 ?_
  refine c_V (As := [.int (xs (i + 1)), .int (xs (i + 2)), .int (xs (i + 3))]) (rest := [.int r]) (w' := XC g q x2 ++ MC g q2 y2) cx hw (c_X5_sheet l g q2 N (xs (i + 1)) (xs (i + 2)) (xs (i + 3)) y r y2 e2) (cl_L_156 cx.1.2.2.2.2 ⟨Nat.le_of_ble_eq_true rfl, Nat.le_of_ble_eq_true rfl⟩) (x_recv cx hw (ci := 5) rfl 53 rfl) (Ct.skip _ (Ct.all (MC_ll ..))) hl.1 rfl rfl (Nat.le_of_ble_eq_true rfl) dL_law_1235 ⟨Nat.le_of_ble_eq_true rfl, Nat.le_of_ble_eq_true rfl⟩ (st1 := [.int r, .int r]) rfl (fun H locs hw => ?_)
  exact lv_icmp_eq (tgt := 1554) hx hb dL_law_1238 (by decide) (fun _ => kk x2 y2 H locs hs2 hw) (fun h => absurd rfl h)
theorem lw_cmp (r : Int64) : lg_cmp r r = 0 := by unfold lg_cmp; simp
set_option maxHeartbeats 4000000 in
set_option maxRecDepth 100000 in
theorem lw_write (C : LC p s m c b L xs g A) (hL : L ≤ 3072) (hN : 5000 ≤ N) (hi : i + 6 ≤ L) {x : XD} {y : MD} (hs : Sys x y) (hw : Wd g A (XC g q x ++ MC g q2 y) s H locs) (hl : lv_has ls 4 [(0, .ref b), (1, .ref (q 0)), (2, .ref (q2 0)), (3, .int (nI i))]) (kk : ∀ (x2 : XD) (y2 : MD) (H2 : Heap) (locs2 : List Loc), Sys x2 y2 → Wd g A (XC g q x2 ++ MC g q2 y2) s H2 locs2 → W p l e room_1 s m #[Value.ref b] below meth c H2 locs2 63 1977 Q (F0 m 1554 ls [])) : W p l e room_1 s m #[Value.ref b] below meth c H locs 63 1977 Q (F0 m 1243 ls []) := by
  have cx := C.1
  have hx := cx.1.1
  have hb := cx.1.2.1
  obtain ⟨z, ez⟩ : ∃ z, z = ((((xs (i + 3)).toInt64 <<< ((32 : Int32).toInt64 &&& 63))) ||| ((xs (i + 4)).toInt64 &&& 4294967295)) := ⟨_, rfl⟩
  obtain ⟨r, x2, y2, e1, e2, hs2⟩ := op_write (N := N) hN hs (xs (i + 1)) (xs (i + 2)) z
  refine lv_aload_n hx hb dL_law_1243 rfl (lv_at hl 1 rfl) ?_
  refine lw_arg C hL hw hl 1 (by omega) (by decide) dL_law_1244 dL_law_1245 dL_law_1246 dL_law_1247 dL_law_1248 ?_
  refine lw_arg C hL hw hl 2 (by omega) (by decide) dL_law_1249 dL_law_1250 dL_law_1251 dL_law_1252 dL_law_1253 ?_
  refine lw_arg C hL hw hl 3 (by omega) (by decide) dL_law_1254 dL_law_1255 dL_law_1256 dL_law_1257 dL_law_1258 ?_
  refine lv_i2l hx hb dL_law_1259 rfl ?_
  refine lv_bipush (v := 32) hx hb dL_law_1260 (by decide) ?_
  refine lv_lshl hx hb dL_law_1262 rfl ?_
  refine lw_arg C hL hw hl 4 (by omega) (by decide) dL_law_1263 dL_law_1264 dL_law_1265 dL_law_1266 dL_law_1267 ?_
  refine lv_i2l hx hb dL_law_1268 rfl ?_
  refine lv_ldc2 hx hb cx.1.2.2.2.1 (cx.1.2.2.2.2 _ tw_6_5) dL_law_1269 ?_
  refine lv_land hx hb dL_law_1272 ?_
  refine lv_lor hx hb dL_law_1273 ?_
  rw [← ez]
  refine c_V (As := [.int (xs (i + 1)), .int (xs (i + 2)), .long z]) (rest := []) (w' := XC g q x2 ++ MC g q2 y) cx hw (c_X4_write l g q N (xs (i + 1)) (xs (i + 2)) z x r x2 e1) (cl_L_159 cx.1.2.2.2.2 ⟨Nat.le_of_ble_eq_true rfl, Nat.le_of_ble_eq_true rfl⟩) (x_recv cx hw (ci := 4) rfl 0 rfl) (Ct.inl _ (Ct.all (XC_ll ..)) (XC_ll ..)) hl.1 rfl rfl (Nat.le_of_ble_eq_true rfl) dL_law_1274 ⟨Nat.le_of_ble_eq_true rfl, Nat.le_of_ble_eq_true rfl⟩ (st1 := [.long r]) rfl (fun H locs hw => ?_)
  refine lv_aload_n hx hb dL_law_1277 rfl (lv_at hl 2 rfl) ?_
  refine lw_arg C hL hw hl 1 (by omega) (by decide) dL_law_1278 dL_law_1279 dL_law_1280 dL_law_1281 dL_law_1282 ?_
  refine lw_arg C hL hw hl 2 (by omega) (by decide) dL_law_1283 dL_law_1284 dL_law_1285 dL_law_1286 dL_law_1287 ?_
  refine lw_arg C hL hw hl 3 (by omega) (by decide) dL_law_1288 dL_law_1289 dL_law_1290 dL_law_1291 dL_law_1292 ?_
  refine lv_i2l hx hb dL_law_1293 rfl ?_
  refine lv_bipush (v := 32) hx hb dL_law_1294 (by decide) ?_
  refine lv_lshl hx hb dL_law_1296 rfl ?_
  refine lw_arg C hL hw hl 4 (by omega) (by decide) dL_law_1297 dL_law_1298 dL_law_1299 dL_law_1300 dL_law_1301 ?_
  refine lv_i2l hx hb dL_law_1302 rfl ?_
  refine lv_ldc2 hx hb cx.1.2.2.2.1 (cx.1.2.2.2.2 _ tw_6_5) dL_law_1303 ?_
  refine lv_land hx hb dL_law_1306 ?_
  refine lv_lor hx hb dL_law_1307 ?_
  rw [← ez]
  refine c_V (As := [.int (xs (i + 1)), .int (xs (i + 2)), .long z]) (rest := [.long r]) (w' := XC g q x2 ++ MC g q2 y2) cx hw (c_X5_write l g q2 N (xs (i + 1)) (xs (i + 2)) z y r y2 e2) (cl_L_163 cx.1.2.2.2.2 ⟨Nat.le_of_ble_eq_true rfl, Nat.le_of_ble_eq_true rfl⟩) (x_recv cx hw (ci := 5) rfl 53 rfl) (Ct.skip _ (Ct.all (MC_ll ..))) hl.1 rfl rfl (Nat.le_of_ble_eq_true rfl) dL_law_1308 ⟨Nat.le_of_ble_eq_true rfl, Nat.le_of_ble_eq_true rfl⟩ (st1 := [.long r, .long r]) rfl (fun H locs hw => ?_)
  refine W.lcmp hx hb dL_law_1311 ?_
  exact lv_if_eq (tgt := 1554) hx hb dL_law_1312 (by decide) (fun _ => kk x2 y2 H locs hs2 hw) (fun h => absurd (lw_cmp r) h)
set_option maxHeartbeats 4000000 in
set_option maxRecDepth 100000 in
theorem lw_copy (C : LC p s m c b L xs g A) (hL : L ≤ 3072) (hN : 5000 ≤ N) (hi : i + 6 ≤ L) {x : XD} {y : MD} (hs : Sys x y) (hw : Wd g A (XC g q x ++ MC g q2 y) s H locs) (hl : lv_has ls 4 [(0, .ref b), (1, .ref (q 0)), (2, .ref (q2 0)), (3, .int (nI i))]) (kk : ∀ (x2 : XD) (y2 : MD) (H2 : Heap) (locs2 : List Loc), Sys x2 y2 → Wd g A (XC g q x2 ++ MC g q2 y2) s H2 locs2 → W p l e room_1 s m #[Value.ref b] below meth c H2 locs2 63 1977 Q (F0 m 1554 ls [])) : W p l e room_1 s m #[Value.ref b] below meth c H locs 63 1977 Q (F0 m 1317 ls []) := by
  have cx := C.1
  have hx := cx.1.1
  have hb := cx.1.2.1
  obtain ⟨r, x2, y2, e1, e2, hs2⟩ := op_copy (N := N) hN hs (xs (i + 1)) (xs (i + 2)) (xs (i + 3)) (xs (i + 4)) (xs (i + 5))
  refine lv_aload_n hx hb dL_law_1317 rfl (lv_at hl 1 rfl) ?_
  refine lw_arg C hL hw hl 1 (by omega) (by decide) dL_law_1318 dL_law_1319 dL_law_1320 dL_law_1321 dL_law_1322 ?_
  refine lw_arg C hL hw hl 2 (by omega) (by decide) dL_law_1323 dL_law_1324 dL_law_1325 dL_law_1326 dL_law_1327 ?_
  refine lw_arg C hL hw hl 3 (by omega) (by decide) dL_law_1328 dL_law_1329 dL_law_1330 dL_law_1331 dL_law_1332 ?_
  refine lw_arg C hL hw hl 4 (by omega) (by decide) dL_law_1333 dL_law_1334 dL_law_1335 dL_law_1336 dL_law_1337 ?_
  refine lw_arg C hL hw hl 5 (by omega) (by decide) dL_law_1338 dL_law_1339 dL_law_1340 dL_law_1341 dL_law_1342 ?_
  refine c_V (As := [.int (xs (i + 1)), .int (xs (i + 2)), .int (xs (i + 3)), .int (xs (i + 4)), .int (xs (i + 5))]) (rest := []) (w' := XC g q x2 ++ MC g q2 y) cx hw (c_X4_copy l g q N (xs (i + 1)) (xs (i + 2)) (xs (i + 3)) (xs (i + 4)) (xs (i + 5)) x r x2 e1) (cl_L_164 cx.1.2.2.2.2 ⟨Nat.le_of_ble_eq_true rfl, Nat.le_of_ble_eq_true rfl⟩) (x_recv cx hw (ci := 4) rfl 0 rfl) (Ct.inl _ (Ct.all (XC_ll ..)) (XC_ll ..)) hl.1 rfl rfl (Nat.le_of_ble_eq_true rfl) dL_law_1343 ⟨Nat.le_of_ble_eq_true rfl, Nat.le_of_ble_eq_true rfl⟩ (st1 := [.int r]) rfl (fun H locs hw => ?_)
  refine lv_aload_n hx hb dL_law_1346 rfl (lv_at hl 2 rfl) ?_
  refine lw_arg C hL hw hl 1 (by omega) (by decide) dL_law_1347 dL_law_1348 dL_law_1349 dL_law_1350 dL_law_1351 ?_
  refine lw_arg C hL hw hl 2 (by omega) (by decide) dL_law_1352 dL_law_1353 dL_law_1354 dL_law_1355 dL_law_1356 ?_
  refine lw_arg C hL hw hl 3 (by omega) (by decide) dL_law_1357 dL_law_1358 dL_law_1359 dL_law_1360 dL_law_1361 ?_
  refine lw_arg C hL hw hl 4 (by omega) (by decide) dL_law_1362 dL_law_1363 dL_law_1364 dL_law_1365 dL_law_1366 ?_
  refine lw_arg C hL hw hl 5 (by omega) (by decide) dL_law_1367 dL_law_1368 dL_law_1369 dL_law_1370 dL_law_1371 ?_
  refine c_V (As := [.int (xs (i + 1)), .int (xs (i + 2)), .int (xs (i + 3)), .int (xs (i + 4)), .int (xs (i + 5))]) (rest := [.int r]) (w' := XC g q x2 ++ MC g q2 y2) cx hw (c_X5_copy l g q2 N (xs (i + 1)) (xs (i + 2)) (xs (i + 3)) (xs (i + 4)) (xs (i + 5)) y r y2 e2) (cl_L_168 cx.1.2.2.2.2 ⟨Nat.le_of_ble_eq_true rfl, Nat.le_of_ble_eq_true rfl⟩) (x_recv cx hw (ci := 5) rfl 53 rfl) (Ct.skip _ (Ct.all (MC_ll ..))) hl.1 rfl rfl (Nat.le_of_ble_eq_true rfl) dL_law_1372 ⟨Nat.le_of_ble_eq_true rfl, Nat.le_of_ble_eq_true rfl⟩ (st1 := [.int r, .int r]) rfl (fun H locs hw => ?_)
  exact lv_icmp_eq (tgt := 1554) hx hb dL_law_1375 (by decide) (fun _ => kk x2 y2 H locs hs2 hw) (fun h => absurd rfl h)
set_option maxHeartbeats 4000000 in
set_option maxRecDepth 100000 in
theorem lw_lays (C : LC p s m c b L xs g A) (hL : L ≤ 3072) (hN : 5000 ≤ N) (hi : i + 6 ≤ L) {x : XD} {y : MD} (hs : Sys x y) (hw : Wd g A (XC g q x ++ MC g q2 y) s H locs) (hl : lv_has ls 4 [(0, .ref b), (1, .ref (q 0)), (2, .ref (q2 0)), (3, .int (nI i))]) (kk : ∀ (x2 : XD) (y2 : MD) (H2 : Heap) (locs2 : List Loc), Sys x2 y2 → Wd g A (XC g q x2 ++ MC g q2 y2) s H2 locs2 → W p l e room_1 s m #[Value.ref b] below meth c H2 locs2 63 1977 Q (F0 m 1554 ls [])) : W p l e room_1 s m #[Value.ref b] below meth c H locs 63 1977 Q (F0 m 1380 ls []) := by
  have cx := C.1
  have hx := cx.1.1
  have hb := cx.1.2.1
  obtain ⟨r, x2, y2, e1, e2, hs2⟩ := op_lays (N := N) hN hs (xs (i + 1)) (xs (i + 2))
  refine lv_aload_n hx hb dL_law_1380 rfl (lv_at hl 1 rfl) ?_
  refine lw_arg C hL hw hl 1 (by omega) (by decide) dL_law_1381 dL_law_1382 dL_law_1383 dL_law_1384 dL_law_1385 ?_
  refine lw_arg C hL hw hl 2 (by omega) (by decide) dL_law_1386 dL_law_1387 dL_law_1388 dL_law_1389 dL_law_1390 ?_
  refine c_V (As := [.int (xs (i + 1)), .int (xs (i + 2))]) (rest := []) (w' := XC g q x2 ++ MC g q2 y) cx hw (c_X4_lays l g q N (xs (i + 1)) (xs (i + 2)) x r x2 e1) (cl_L_169 cx.1.2.2.2.2 ⟨Nat.le_of_ble_eq_true rfl, Nat.le_of_ble_eq_true rfl⟩) (x_recv cx hw (ci := 4) rfl 0 rfl) (Ct.inl _ (Ct.all (XC_ll ..)) (XC_ll ..)) hl.1 rfl rfl (Nat.le_of_ble_eq_true rfl) dL_law_1391 ⟨Nat.le_of_ble_eq_true rfl, Nat.le_of_ble_eq_true rfl⟩ (st1 := [.int r]) rfl (fun H locs hw => ?_)
  refine lv_aload_n hx hb dL_law_1394 rfl (lv_at hl 2 rfl) ?_
  refine lw_arg C hL hw hl 1 (by omega) (by decide) dL_law_1395 dL_law_1396 dL_law_1397 dL_law_1398 dL_law_1399 ?_
  refine lw_arg C hL hw hl 2 (by omega) (by decide) dL_law_1400 dL_law_1401 dL_law_1402 dL_law_1403 dL_law_1404 ?_
  refine c_V (As := [.int (xs (i + 1)), .int (xs (i + 2))]) (rest := [.int r]) (w' := XC g q x2 ++ MC g q2 y2) cx hw (c_X5_lays l g q2 N (xs (i + 1)) (xs (i + 2)) y r y2 e2) (cl_L_172 cx.1.2.2.2.2 ⟨Nat.le_of_ble_eq_true rfl, Nat.le_of_ble_eq_true rfl⟩) (x_recv cx hw (ci := 5) rfl 53 rfl) (Ct.skip _ (Ct.all (MC_ll ..))) hl.1 rfl rfl (Nat.le_of_ble_eq_true rfl) dL_law_1405 ⟨Nat.le_of_ble_eq_true rfl, Nat.le_of_ble_eq_true rfl⟩ (st1 := [.int r, .int r]) rfl (fun H locs hw => ?_)
  exact lv_icmp_eq (tgt := 1554) hx hb dL_law_1408 (by decide) (fun _ => kk x2 y2 H locs hs2 hw) (fun h => absurd rfl h)
set_option maxHeartbeats 4000000 in
set_option maxRecDepth 100000 in
theorem lw_book (C : LC p s m c b L xs g A) (hL : L ≤ 3072) (hN : 5000 ≤ N) (hi : i + 6 ≤ L) {x : XD} {y : MD} (hs : Sys x y) (hw : Wd g A (XC g q x ++ MC g q2 y) s H locs) (hl : lv_has ls 4 [(0, .ref b), (1, .ref (q 0)), (2, .ref (q2 0)), (3, .int (nI i))]) (kk : ∀ (x2 : XD) (y2 : MD) (H2 : Heap) (locs2 : List Loc), Sys x2 y2 → Wd g A (XC g q x2 ++ MC g q2 y2) s H2 locs2 → W p l e room_1 s m #[Value.ref b] below meth c H2 locs2 63 1977 Q (F0 m 1554 ls [])) : W p l e room_1 s m #[Value.ref b] below meth c H locs 63 1977 Q (F0 m 1413 ls []) := by
  have cx := C.1
  have hx := cx.1.1
  have hb := cx.1.2.1
  obtain ⟨r, x2, y2, e1, e2, hs2⟩ := op_book (N := N) hN hs (xs (i + 1)) (xs (i + 2))
  refine lv_aload_n hx hb dL_law_1413 rfl (lv_at hl 1 rfl) ?_
  refine lw_arg C hL hw hl 1 (by omega) (by decide) dL_law_1414 dL_law_1415 dL_law_1416 dL_law_1417 dL_law_1418 ?_
  refine lw_arg C hL hw hl 2 (by omega) (by decide) dL_law_1419 dL_law_1420 dL_law_1421 dL_law_1422 dL_law_1423 ?_
  refine c_V (As := [.int (xs (i + 1)), .int (xs (i + 2))]) (rest := []) (w' := XC g q x2 ++ MC g q2 y) cx hw (c_X4_book l g q N (xs (i + 1)) (xs (i + 2)) x r x2 e1) (cl_L_173 cx.1.2.2.2.2 ⟨Nat.le_of_ble_eq_true rfl, Nat.le_of_ble_eq_true rfl⟩) (x_recv cx hw (ci := 4) rfl 0 rfl) (Ct.inl _ (Ct.all (XC_ll ..)) (XC_ll ..)) hl.1 rfl rfl (Nat.le_of_ble_eq_true rfl) dL_law_1424 ⟨Nat.le_of_ble_eq_true rfl, Nat.le_of_ble_eq_true rfl⟩ (st1 := [.int r]) rfl (fun H locs hw => ?_)
  refine lv_aload_n hx hb dL_law_1427 rfl (lv_at hl 2 rfl) ?_
  refine lw_arg C hL hw hl 1 (by omega) (by decide) dL_law_1428 dL_law_1429 dL_law_1430 dL_law_1431 dL_law_1432 ?_
  refine lw_arg C hL hw hl 2 (by omega) (by decide) dL_law_1433 dL_law_1434 dL_law_1435 dL_law_1436 dL_law_1437 ?_
  refine c_V (As := [.int (xs (i + 1)), .int (xs (i + 2))]) (rest := [.int r]) (w' := XC g q x2 ++ MC g q2 y2) cx hw (c_X5_book l g q2 N (xs (i + 1)) (xs (i + 2)) y r y2 e2) (cl_L_176 cx.1.2.2.2.2 ⟨Nat.le_of_ble_eq_true rfl, Nat.le_of_ble_eq_true rfl⟩) (x_recv cx hw (ci := 5) rfl 53 rfl) (Ct.skip _ (Ct.all (MC_ll ..))) hl.1 rfl rfl (Nat.le_of_ble_eq_true rfl) dL_law_1438 ⟨Nat.le_of_ble_eq_true rfl, Nat.le_of_ble_eq_true rfl⟩ (st1 := [.int r, .int r]) rfl (fun H locs hw => ?_)
  exact lv_icmp_eq (tgt := 1554) hx hb dL_law_1441 (by decide) (fun _ => kk x2 y2 H locs hs2 hw) (fun h => absurd rfl h)
set_option maxHeartbeats 4000000 in
set_option maxRecDepth 100000 in
theorem lw_read (C : LC p s m c b L xs g A) (hL : L ≤ 3072) (hN : 5000 ≤ N) (hi : i + 6 ≤ L) {x : XD} {y : MD} (hs : Sys x y) (hw : Wd g A (XC g q x ++ MC g q2 y) s H locs) (hl : lv_has ls 4 [(0, .ref b), (1, .ref (q 0)), (2, .ref (q2 0)), (3, .int (nI i))]) (kk : ∀ (x2 : XD) (y2 : MD) (H2 : Heap) (locs2 : List Loc), Sys x2 y2 → Wd g A (XC g q x2 ++ MC g q2 y2) s H2 locs2 → W p l e room_1 s m #[Value.ref b] below meth c H2 locs2 63 1977 Q (F0 m 1554 ls [])) : W p l e room_1 s m #[Value.ref b] below meth c H locs 63 1977 Q (F0 m 1446 ls []) := by
  have cx := C.1
  have hx := cx.1.1
  have hb := cx.1.2.1
  obtain ⟨r, x2, y2, e1, e2, hs2⟩ := op_read (N := N) hN hs (xs (i + 1))
  refine lv_aload_n hx hb dL_law_1446 rfl (lv_at hl 1 rfl) ?_
  refine lw_arg C hL hw hl 1 (by omega) (by decide) dL_law_1447 dL_law_1448 dL_law_1449 dL_law_1450 dL_law_1451 ?_
  refine c_V (As := [.int (xs (i + 1))]) (rest := []) (w' := XC g q x2 ++ MC g q2 y) cx hw (c_X4_read l g q N (xs (i + 1)) x r x2 e1) (cl_L_177 cx.1.2.2.2.2 ⟨Nat.le_of_ble_eq_true rfl, Nat.le_of_ble_eq_true rfl⟩) (x_recv cx hw (ci := 4) rfl 0 rfl) (Ct.inl _ (Ct.all (XC_ll ..)) (XC_ll ..)) hl.1 rfl rfl (Nat.le_of_ble_eq_true rfl) dL_law_1452 ⟨Nat.le_of_ble_eq_true rfl, Nat.le_of_ble_eq_true rfl⟩ (st1 := [.int r]) rfl (fun H locs hw => ?_)
  refine lv_aload_n hx hb dL_law_1455 rfl (lv_at hl 2 rfl) ?_
  refine lw_arg C hL hw hl 1 (by omega) (by decide) dL_law_1456 dL_law_1457 dL_law_1458 dL_law_1459 dL_law_1460 ?_
  refine c_V (As := [.int (xs (i + 1))]) (rest := [.int r]) (w' := XC g q x2 ++ MC g q2 y2) cx hw (c_X5_read l g q2 N (xs (i + 1)) y r y2 e2) (cl_L_180 cx.1.2.2.2.2 ⟨Nat.le_of_ble_eq_true rfl, Nat.le_of_ble_eq_true rfl⟩) (x_recv cx hw (ci := 5) rfl 53 rfl) (Ct.skip _ (Ct.all (MC_ll ..))) hl.1 rfl rfl (Nat.le_of_ble_eq_true rfl) dL_law_1461 ⟨Nat.le_of_ble_eq_true rfl, Nat.le_of_ble_eq_true rfl⟩ (st1 := [.int r, .int r]) rfl (fun H locs hw => ?_)
  exact lv_icmp_eq (tgt := 1554) hx hb dL_law_1464 (by decide) (fun _ => kk x2 y2 H locs hs2 hw) (fun h => absurd rfl h)
set_option maxHeartbeats 4000000 in
set_option maxRecDepth 100000 in
theorem lw_image (C : LC p s m c b L xs g A) (hL : L ≤ 3072) (hN : 5000 ≤ N) (hi : i + 6 ≤ L) {x : XD} {y : MD} (hs : Sys x y) (hw : Wd g A (XC g q x ++ MC g q2 y) s H locs) (hl : lv_has ls 4 [(0, .ref b), (1, .ref (q 0)), (2, .ref (q2 0)), (3, .int (nI i))]) (kk : ∀ (x2 : XD) (y2 : MD) (H2 : Heap) (locs2 : List Loc), Sys x2 y2 → Wd g A (XC g q x2 ++ MC g q2 y2) s H2 locs2 → W p l e room_1 s m #[Value.ref b] below meth c H2 locs2 63 1977 Q (F0 m 1554 ls [])) : W p l e room_1 s m #[Value.ref b] below meth c H locs 63 1977 Q (F0 m 1469 ls []) := by
  have cx := C.1
  have hx := cx.1.1
  have hb := cx.1.2.1
  obtain ⟨r, x2, y2, e1, e2, hs2⟩ := op_image (N := N) hN hs
  refine lv_aload_n hx hb dL_law_1469 rfl (lv_at hl 1 rfl) ?_
  refine c_V (As := []) (rest := []) (w' := XC g q x2 ++ MC g q2 y) cx hw (c_X4_image l g q N x r x2 e1) (cl_L_181 cx.1.2.2.2.2 ⟨Nat.le_of_ble_eq_true rfl, Nat.le_of_ble_eq_true rfl⟩) (x_recv cx hw (ci := 4) rfl 0 rfl) (Ct.inl _ (Ct.all (XC_ll ..)) (XC_ll ..)) hl.1 rfl rfl (Nat.le_of_ble_eq_true rfl) dL_law_1470 ⟨Nat.le_of_ble_eq_true rfl, Nat.le_of_ble_eq_true rfl⟩ (st1 := [.int r]) rfl (fun H locs hw => ?_)
  refine lv_aload_n hx hb dL_law_1473 rfl (lv_at hl 2 rfl) ?_
  refine c_V (As := []) (rest := [.int r]) (w' := XC g q x2 ++ MC g q2 y2) cx hw (c_X5_image l g q2 N y r y2 e2) (cl_L_184 cx.1.2.2.2.2 ⟨Nat.le_of_ble_eq_true rfl, Nat.le_of_ble_eq_true rfl⟩) (x_recv cx hw (ci := 5) rfl 53 rfl) (Ct.skip _ (Ct.all (MC_ll ..))) hl.1 rfl rfl (Nat.le_of_ble_eq_true rfl) dL_law_1474 ⟨Nat.le_of_ble_eq_true rfl, Nat.le_of_ble_eq_true rfl⟩ (st1 := [.int r, .int r]) rfl (fun H locs hw => ?_)
  exact lv_icmp_eq (tgt := 1554) hx hb dL_law_1477 (by decide) (fun _ => kk x2 y2 H locs hs2 hw) (fun h => absurd rfl h)
set_option maxHeartbeats 4000000 in
set_option maxRecDepth 100000 in
theorem lw_undo (C : LC p s m c b L xs g A) (hL : L ≤ 3072) (hN : 5000 ≤ N) (hi : i + 6 ≤ L) {x : XD} {y : MD} (hs : Sys x y) (hw : Wd g A (XC g q x ++ MC g q2 y) s H locs) (hl : lv_has ls 4 [(0, .ref b), (1, .ref (q 0)), (2, .ref (q2 0)), (3, .int (nI i))]) (kk : ∀ (x2 : XD) (y2 : MD) (H2 : Heap) (locs2 : List Loc), Sys x2 y2 → Wd g A (XC g q x2 ++ MC g q2 y2) s H2 locs2 → W p l e room_1 s m #[Value.ref b] below meth c H2 locs2 63 1977 Q (F0 m 1554 ls [])) : W p l e room_1 s m #[Value.ref b] below meth c H locs 63 1977 Q (F0 m 1482 ls []) := by
  have cx := C.1
  have hx := cx.1.1
  have hb := cx.1.2.1
  obtain ⟨r, x2, y2, e1, e2, hs2⟩ := op_undo (N := N) hN hs
  refine lv_aload_n hx hb dL_law_1482 rfl (lv_at hl 1 rfl) ?_
  refine c_V (As := []) (rest := []) (w' := XC g q x2 ++ MC g q2 y) cx hw (c_X4_undo l g q N x r x2 e1) (cl_L_185 cx.1.2.2.2.2 ⟨Nat.le_of_ble_eq_true rfl, Nat.le_of_ble_eq_true rfl⟩) (x_recv cx hw (ci := 4) rfl 0 rfl) (Ct.inl _ (Ct.all (XC_ll ..)) (XC_ll ..)) hl.1 rfl rfl (Nat.le_of_ble_eq_true rfl) dL_law_1483 ⟨Nat.le_of_ble_eq_true rfl, Nat.le_of_ble_eq_true rfl⟩ (st1 := [.int r]) rfl (fun H locs hw => ?_)
  refine lv_aload_n hx hb dL_law_1486 rfl (lv_at hl 2 rfl) ?_
  refine c_V (As := []) (rest := [.int r]) (w' := XC g q x2 ++ MC g q2 y2) cx hw (c_X5_undo l g q2 N y r y2 e2) (cl_L_188 cx.1.2.2.2.2 ⟨Nat.le_of_ble_eq_true rfl, Nat.le_of_ble_eq_true rfl⟩) (x_recv cx hw (ci := 5) rfl 53 rfl) (Ct.skip _ (Ct.all (MC_ll ..))) hl.1 rfl rfl (Nat.le_of_ble_eq_true rfl) dL_law_1487 ⟨Nat.le_of_ble_eq_true rfl, Nat.le_of_ble_eq_true rfl⟩ (st1 := [.int r, .int r]) rfl (fun H locs hw => ?_)
  exact lv_icmp_eq (tgt := 1554) hx hb dL_law_1490 (by decide) (fun _ => kk x2 y2 H locs hs2 hw) (fun h => absurd rfl h)
set_option maxHeartbeats 4000000 in
set_option maxRecDepth 100000 in
theorem lw_tear (C : LC p s m c b L xs g A) (hL : L ≤ 3072) (hN : 5000 ≤ N) (hi : i + 6 ≤ L) {x : XD} {y : MD} (hs : Sys x y) (hw : Wd g A (XC g q x ++ MC g q2 y) s H locs) (hl : lv_has ls 4 [(0, .ref b), (1, .ref (q 0)), (2, .ref (q2 0)), (3, .int (nI i))]) (kk : ∀ (x2 : XD) (y2 : MD) (H2 : Heap) (locs2 : List Loc), Sys x2 y2 → Wd g A (XC g q x2 ++ MC g q2 y2) s H2 locs2 → W p l e room_1 s m #[Value.ref b] below meth c H2 locs2 63 1977 Q (F0 m 1554 ls [])) : W p l e room_1 s m #[Value.ref b] below meth c H locs 63 1977 Q (F0 m 1495 ls []) := by
  have cx := C.1
  have hx := cx.1.1
  have hb := cx.1.2.1
  obtain ⟨r, x2, y2, e1, e2, hs2⟩ := op_tear (N := N) hs
  refine lv_aload_n hx hb dL_law_1495 rfl (lv_at hl 1 rfl) ?_
  refine c_V (As := []) (rest := []) (w' := XC g q x2 ++ MC g q2 y) cx hw (c_X4_tear l g q N x r x2 e1) (cl_L_189 cx.1.2.2.2.2 ⟨Nat.le_of_ble_eq_true rfl, Nat.le_of_ble_eq_true rfl⟩) (x_recv cx hw (ci := 4) rfl 0 rfl) (Ct.inl _ (Ct.all (XC_ll ..)) (XC_ll ..)) hl.1 rfl rfl (Nat.le_of_ble_eq_true rfl) dL_law_1496 ⟨Nat.le_of_ble_eq_true rfl, Nat.le_of_ble_eq_true rfl⟩ (st1 := [.int r]) rfl (fun H locs hw => ?_)
  refine lv_aload_n hx hb dL_law_1499 rfl (lv_at hl 2 rfl) ?_
  refine c_V (As := []) (rest := [.int r]) (w' := XC g q x2 ++ MC g q2 y2) cx hw (c_X5_tear l g q2 N y r y2 e2) (cl_L_192 cx.1.2.2.2.2 ⟨Nat.le_of_ble_eq_true rfl, Nat.le_of_ble_eq_true rfl⟩) (x_recv cx hw (ci := 5) rfl 53 rfl) (Ct.skip _ (Ct.all (MC_ll ..))) hl.1 rfl rfl (Nat.le_of_ble_eq_true rfl) dL_law_1500 ⟨Nat.le_of_ble_eq_true rfl, Nat.le_of_ble_eq_true rfl⟩ (st1 := [.int r, .int r]) rfl (fun H locs hw => ?_)
  exact lv_icmp_eq (tgt := 1554) hx hb dL_law_1503 (by decide) (fun _ => kk x2 y2 H locs hs2 hw) (fun h => absurd rfl h)
set_option maxHeartbeats 4000000 in
set_option maxRecDepth 100000 in
theorem lw_count (C : LC p s m c b L xs g A) (hL : L ≤ 3072) (hN : 5000 ≤ N) (hi : i + 6 ≤ L) {x : XD} {y : MD} (hs : Sys x y) (hw : Wd g A (XC g q x ++ MC g q2 y) s H locs) (hl : lv_has ls 4 [(0, .ref b), (1, .ref (q 0)), (2, .ref (q2 0)), (3, .int (nI i))]) (kk : ∀ (x2 : XD) (y2 : MD) (H2 : Heap) (locs2 : List Loc), Sys x2 y2 → Wd g A (XC g q x2 ++ MC g q2 y2) s H2 locs2 → W p l e room_1 s m #[Value.ref b] below meth c H2 locs2 63 1977 Q (F0 m 1554 ls [])) : W p l e room_1 s m #[Value.ref b] below meth c H locs 63 1977 Q (F0 m 1508 ls []) := by
  have cx := C.1
  have hx := cx.1.1
  have hb := cx.1.2.1
  obtain ⟨r, x2, y2, e1, e2, hs2⟩ := op_count (N := N) hN hs (xs (i + 1))
  refine lv_aload_n hx hb dL_law_1508 rfl (lv_at hl 1 rfl) ?_
  refine lw_arg C hL hw hl 1 (by omega) (by decide) dL_law_1509 dL_law_1510 dL_law_1511 dL_law_1512 dL_law_1513 ?_
  refine c_V (As := [.int (xs (i + 1))]) (rest := []) (w' := XC g q x2 ++ MC g q2 y) cx hw (c_X4_count l g q N (xs (i + 1)) x r x2 e1) (cl_L_193 cx.1.2.2.2.2 ⟨Nat.le_of_ble_eq_true rfl, Nat.le_of_ble_eq_true rfl⟩) (x_recv cx hw (ci := 4) rfl 0 rfl) (Ct.inl _ (Ct.all (XC_ll ..)) (XC_ll ..)) hl.1 rfl rfl (Nat.le_of_ble_eq_true rfl) dL_law_1514 ⟨Nat.le_of_ble_eq_true rfl, Nat.le_of_ble_eq_true rfl⟩ (st1 := [.int r]) rfl (fun H locs hw => ?_)
  refine lv_aload_n hx hb dL_law_1517 rfl (lv_at hl 2 rfl) ?_
  refine lw_arg C hL hw hl 1 (by omega) (by decide) dL_law_1518 dL_law_1519 dL_law_1520 dL_law_1521 dL_law_1522 ?_
  refine c_V (As := [.int (xs (i + 1))]) (rest := [.int r]) (w' := XC g q x2 ++ MC g q2 y2) cx hw (c_X5_count l g q2 N (xs (i + 1)) y r y2 e2) (cl_L_196 cx.1.2.2.2.2 ⟨Nat.le_of_ble_eq_true rfl, Nat.le_of_ble_eq_true rfl⟩) (x_recv cx hw (ci := 5) rfl 53 rfl) (Ct.skip _ (Ct.all (MC_ll ..))) hl.1 rfl rfl (Nat.le_of_ble_eq_true rfl) dL_law_1523 ⟨Nat.le_of_ble_eq_true rfl, Nat.le_of_ble_eq_true rfl⟩ (st1 := [.int r, .int r]) rfl (fun H locs hw => ?_)
  exact lv_icmp_eq (tgt := 1554) hx hb dL_law_1526 (by decide) (fun _ => kk x2 y2 H locs hs2 hw) (fun h => absurd rfl h)
set_option maxHeartbeats 4000000 in
set_option maxRecDepth 100000 in
theorem lw_status (C : LC p s m c b L xs g A) (hL : L ≤ 3072) (hN : 5000 ≤ N) (hi : i + 6 ≤ L) {x : XD} {y : MD} (hs : Sys x y) (hw : Wd g A (XC g q x ++ MC g q2 y) s H locs) (hl : lv_has ls 4 [(0, .ref b), (1, .ref (q 0)), (2, .ref (q2 0)), (3, .int (nI i))]) (kk : ∀ (x2 : XD) (y2 : MD) (H2 : Heap) (locs2 : List Loc), Sys x2 y2 → Wd g A (XC g q x2 ++ MC g q2 y2) s H2 locs2 → W p l e room_1 s m #[Value.ref b] below meth c H2 locs2 63 1977 Q (F0 m 1554 ls [])) : W p l e room_1 s m #[Value.ref b] below meth c H locs 63 1977 Q (F0 m 1531 ls []) := by
  have cx := C.1
  have hx := cx.1.1
  have hb := cx.1.2.1
  obtain ⟨r, x2, y2, e1, e2, hs2⟩ := op_status (N := N) hN hs (xs (i + 1))
  refine lv_aload_n hx hb dL_law_1531 rfl (lv_at hl 1 rfl) ?_
  refine lw_arg C hL hw hl 1 (by omega) (by decide) dL_law_1532 dL_law_1533 dL_law_1534 dL_law_1535 dL_law_1536 ?_
  refine c_V (As := [.int (xs (i + 1))]) (rest := []) (w' := XC g q x2 ++ MC g q2 y) cx hw (c_X4_status l g q N (xs (i + 1)) x r x2 e1) (cl_L_197 cx.1.2.2.2.2 ⟨Nat.le_of_ble_eq_true rfl, Nat.le_of_ble_eq_true rfl⟩) (x_recv cx hw (ci := 4) rfl 0 rfl) (Ct.inl _ (Ct.all (XC_ll ..)) (XC_ll ..)) hl.1 rfl rfl (Nat.le_of_ble_eq_true rfl) dL_law_1537 ⟨Nat.le_of_ble_eq_true rfl, Nat.le_of_ble_eq_true rfl⟩ (st1 := [.int r]) rfl (fun H locs hw => ?_)
  refine lv_aload_n hx hb dL_law_1540 rfl (lv_at hl 2 rfl) ?_
  refine lw_arg C hL hw hl 1 (by omega) (by decide) dL_law_1541 dL_law_1542 dL_law_1543 dL_law_1544 dL_law_1545 ?_
  refine c_V (As := [.int (xs (i + 1))]) (rest := [.int r]) (w' := XC g q x2 ++ MC g q2 y2) cx hw (c_X5_status l g q2 N (xs (i + 1)) y r y2 e2) (cl_L_200 cx.1.2.2.2.2 ⟨Nat.le_of_ble_eq_true rfl, Nat.le_of_ble_eq_true rfl⟩) (x_recv cx hw (ci := 5) rfl 53 rfl) (Ct.skip _ (Ct.all (MC_ll ..))) hl.1 rfl rfl (Nat.le_of_ble_eq_true rfl) dL_law_1546 ⟨Nat.le_of_ble_eq_true rfl, Nat.le_of_ble_eq_true rfl⟩ (st1 := [.int r, .int r]) rfl (fun H locs hw => ?_)
  exact lv_icmp_eq (tgt := 1554) hx hb dL_law_1549 (by decide) (fun _ => kk x2 y2 H locs hs2 hw) (fun h => absurd rfl h)
end LAWL
