/-! words of the tables by their places, classes, fields -/
def iI (z : Int) : Int32 := Int32.ofInt z
theorem zin {w : Cond} (i : Nat) (h : tables_1[i]? = some w) (hg : goodWord w = true) : w ∈ zTb := List.mem_filter.mpr ⟨List.mem_append_right _ (List.mem_of_getElem? h), hg⟩
theorem zin1 {w : Cond} (i : Nat) (h : tables_1_1[i]? = some w) (hg : goodWord w = true) : w ∈ zTb := List.mem_filter.mpr ⟨List.mem_append_right _ (List.mem_append_left _ (List.mem_of_getElem? h)), hg⟩
theorem zin2 {w : Cond} (i : Nat) (h : tables_1_2[i]? = some w) (hg : goodWord w = true) : w ∈ zTb := List.mem_filter.mpr ⟨List.mem_append_right _ (List.mem_append_right _ (List.mem_append_left _ (List.mem_of_getElem? h))), hg⟩
theorem zin3 {w : Cond} (i : Nat) (h : tables_1_3[i]? = some w) (hg : goodWord w = true) : w ∈ zTb := List.mem_filter.mpr ⟨List.mem_append_right _ (List.mem_append_right _ (List.mem_append_right _ (List.mem_append_left _ (List.mem_of_getElem? h)))), hg⟩
theorem zin4 {w : Cond} (i : Nat) (h : tables_1_4[i]? = some w) (hg : goodWord w = true) : w ∈ zTb := List.mem_filter.mpr ⟨List.mem_append_right _ (List.mem_append_right _ (List.mem_append_right _ (List.mem_append_right _ (List.mem_append_left _ (List.mem_of_getElem? h))))), hg⟩
theorem zin5 {w : Cond} (i : Nat) (h : tables_1_5[i]? = some w) (hg : goodWord w = true) : w ∈ zTb := List.mem_filter.mpr ⟨List.mem_append_right _ (List.mem_append_right _ (List.mem_append_right _ (List.mem_append_right _ (List.mem_append_right _ (List.mem_append_left _ (List.mem_of_getElem? h)))))), hg⟩
theorem zin6 {w : Cond} (i : Nat) (h : tables_1_6[i]? = some w) (hg : goodWord w = true) : w ∈ zTb := List.mem_filter.mpr ⟨List.mem_append_right _ (List.mem_append_right _ (List.mem_append_right _ (List.mem_append_right _ (List.mem_append_right _ (List.mem_append_right _ (List.mem_append_left _ (List.mem_of_getElem? h))))))), hg⟩
theorem zin7 {w : Cond} (i : Nat) (h : tables_1_7[i]? = some w) (hg : goodWord w = true) : w ∈ zTb := List.mem_filter.mpr ⟨List.mem_append_right _ (List.mem_append_right _ (List.mem_append_right _ (List.mem_append_right _ (List.mem_append_right _ (List.mem_append_right _ (List.mem_append_right _ (List.mem_append_left _ (List.mem_of_getElem? h)))))))), hg⟩
theorem zin8 {w : Cond} (i : Nat) (h : tables_1_8[i]? = some w) (hg : goodWord w = true) : w ∈ zTb := List.mem_filter.mpr ⟨List.mem_append_right _ (List.mem_append_right _ (List.mem_append_right _ (List.mem_append_right _ (List.mem_append_right _ (List.mem_append_right _ (List.mem_append_right _ (List.mem_append_right _ (List.mem_of_getElem? h)))))))), hg⟩
theorem zpr {q : MethodName × Nat} (i : Nat) (h : lw_privs[i]? = some q) : Cond.selects q.1.cls q.1 q.1 ∈ zTb := List.mem_filter.mpr ⟨List.mem_append_left _ (List.mem_map.mpr ⟨q, List.mem_of_getElem? h, rfl⟩), rfl⟩
theorem zcv {own : String} {idx : Nat} {v v' : Int32} (h : Cond.constant own idx v ∈ zTb) (e : v = v') : Cond.constant own idx v' ∈ zTb := e ▸ h
theorem zfn {α : Type} {P : α → Prop} : ∀ q ∈ ([] : List α), P q := fun _ h => by cases h
theorem zfc {α : Type} {P : α → Prop} {a : α} {l : List α} (h : P a) (t : ∀ q ∈ l, P q) : ∀ q ∈ a :: l, P q := fun q hq => by
  rcases List.mem_cons.mp hq with z | z
  · rw [z]; exact h
  · exact t q z
theorem zall3 {a b c : Cond} (h1 : a ∈ zTb) (h2 : b ∈ zTb) (h3 : c ∈ zTb) : ∀ w ∈ [a, b, c], w ∈ zTb := zfc h1 (zfc h2 (zfc h3 zfn))
theorem zall4 {a b c d : Cond} (h1 : a ∈ zTb) (h2 : b ∈ zTb) (h3 : c ∈ zTb) (h4 : d ∈ zTb) : ∀ w ∈ [a, b, c, d], w ∈ zTb := zfc h1 (zall3 h2 h3 h4)
theorem zall5 {a b c d e : Cond} (h1 : a ∈ zTb) (h2 : b ∈ zTb) (h3 : c ∈ zTb) (h4 : d ∈ zTb) (h5 : e ∈ zTb) : ∀ w ∈ [a, b, c, d, e], w ∈ zTb := zfc h1 (zall4 h2 h3 h4 h5)
theorem zall6 {a b c d e f : Cond} (h1 : a ∈ zTb) (h2 : b ∈ zTb) (h3 : c ∈ zTb) (h4 : d ∈ zTb) (h5 : e ∈ zTb) (h6 : f ∈ zTb) : ∀ w ∈ [a, b, c, d, e, f], w ∈ zTb := zfc h1 (zall5 h2 h3 h4 h5 h6)
def zsubT (ws : List Cond) : Bool := ws.all (fun w => tables_1.any (fun v => decide (v = w)) && goodWord w)
theorem zsubT_ok {ws : List Cond} (h : zsubT ws = true) : ∀ w ∈ ws, w ∈ zTb := fun w hw => by
  have h1 := List.all_eq_true.mp h w hw
  rw [Bool.and_eq_true] at h1
  obtain ⟨v, h2, h3⟩ := List.any_eq_true.mp h1.1
  have e : v = w := of_decide_eq_true h3
  subst e
  exact List.mem_filter.mpr ⟨List.mem_append_right _ h2, h1.2⟩
/-! the table of steps: halves by the pc -/
def zB (k : Nat) (P1 P2 : Nat → zOp) : Nat → zOp := fun pc => cond (Nat.ble pc k) (P1 pc) (P2 pc)
def zLf (k : Nat) (o : zOp) : Nat → zOp := fun pc => cond (Nat.beq pc k) o oNo
theorem zokB {M : zM} {k : Nat} {P1 P2 : Nat → zOp} (h1 : zOK M P1) (h2 : zOK M P2) : zOK M (zB k P1 P2) := fun pc => by
  show zSnd M pc (cond (Nat.ble pc k) (P1 pc) (P2 pc))
  cases Nat.ble pc k
  · exact h2 pc
  · exact h1 pc
theorem zokL {M : zM} {k : Nat} {o : zOp} (h : zSnd M k o) : zOK M (zLf k o) := fun pc => by
  show zSnd M pc (cond (Nat.beq pc k) o oNo)
  cases e : Nat.beq pc k
  · exact snd_no M pc
  · rw [Nat.eq_of_beq_eq_true e]; exact h
theorem zkc0 : zKC 0 RX0 TX0 2 tyX0 := ⟨rfl, by decide, zsubT_ok (by decide +kernel), tyX0_ok, nmX0, rfl⟩
theorem zkd0 : zKD 0 2 tyX0 := by unfold zKD; decide +kernel
theorem zkc1 : zKC 1 RX1 TX1 2 tyX1 := ⟨rfl, by decide, zsubT_ok (by decide +kernel), tyX1_ok, nmX1, rfl⟩
theorem zkd1 : zKD 1 2 tyX1 := by unfold zKD; decide +kernel
theorem zkc2 : zKC 2 RX2 TX2 2 tyX2 := ⟨rfl, by decide, zsubT_ok (by decide +kernel), tyX2_ok, nmX2, rfl⟩
theorem zkd2 : zKD 2 2 tyX2 := by unfold zKD; decide +kernel
theorem zkc3 : zKC 3 RX3 TX3 11 tyX3 := ⟨rfl, by decide, zsubT_ok (by decide +kernel), tyX3_ok, nmX3, rfl⟩
theorem zkd3 : zKD 3 11 tyX3 := by unfold zKD; decide +kernel
theorem zkc4 : zKC 4 RX4 TX4 2 tyX4 := ⟨rfl, by decide, zsubT_ok (by decide +kernel), tyX4_ok, nmX4, rfl⟩
theorem zkd4 : zKD 4 2 tyX4 := by unfold zKD; decide +kernel
theorem zkc5 : zKC 5 RX5 TX5 2 tyX5 := ⟨rfl, by decide, zsubT_ok (by decide +kernel), tyX5_ok, nmX5, rfl⟩
theorem zkd5 : zKD 5 2 tyX5 := by unfold zKD; decide +kernel
theorem zkc6 : zKC 6 RX6 TX6 2 tyX6 := ⟨rfl, by decide, zsubT_ok (by decide +kernel), tyX6_ok, nmX6, rfl⟩
theorem zkd6 : zKD 6 2 tyX6 := by unfold zKD; decide +kernel
theorem zkc7 : zKC 7 RX7 TX7 2 tyX7 := ⟨rfl, by decide, zsubT_ok (by decide +kernel), tyX7_ok, nmX7, rfl⟩
theorem zkd7 : zKD 7 2 tyX7 := by unfold zKD; decide +kernel
theorem zkc8 : zKC 8 RX8 TX8 2 tyX8 := ⟨rfl, by decide, zsubT_ok (by decide +kernel), tyX8_ok, nmX8, rfl⟩
theorem zkd8 : zKD 8 2 tyX8 := by unfold zKD; decide +kernel
theorem zkc9 : zKC 9 RX9 TX9 19 tyX9 := ⟨rfl, by decide, zsubT_ok (by decide +kernel), tyX9_ok, nmX9, rfl⟩
theorem zkd9 : zKD 9 19 tyX9 := by unfold zKD; decide +kernel
theorem zkc10 : zKC 10 RX10 TX10 2 tyX10 := ⟨rfl, by decide, zsubT_ok (by decide +kernel), tyX10_ok, nmX10, rfl⟩
theorem zkd10 : zKD 10 2 tyX10 := by unfold zKD; decide +kernel
theorem zkc11 : zKC 11 RX11 TX11 9 tyX11 := ⟨rfl, by decide, zsubT_ok (by decide +kernel), tyX11_ok, nmX11, rfl⟩
theorem zkd11 : zKD 11 9 tyX11 := by unfold zKD; decide +kernel
theorem zkc12 : zKC 12 RX12 TX12 37 tyX12 := ⟨rfl, by decide, zsubT_ok (by decide +kernel), tyX12_ok, nmX12, rfl⟩
theorem zkd12 : zKD 12 37 tyX12 := by unfold zKD; decide +kernel
theorem zfg_0_figure : ∀ ci ∈ ([0, 1, 2, 5, 6, 7, 8, 10] : List Nat), ∃ C T N ty, zKC ci C T N ty ∧ 1 < N ∧ (T 1).1 = "SlowerForTheLate$Walker" ∧ (T 1).2.1 = "figure" ∧ (T 1).2.2.1 = "I" ∧ (zFs ci)[1]? = some false := (zfc ⟨_, _, _, _, zkc0, by decide, rfl, rfl, rfl, rfl⟩ (zfc ⟨_, _, _, _, zkc1, by decide, rfl, rfl, rfl, rfl⟩ (zfc ⟨_, _, _, _, zkc2, by decide, rfl, rfl, rfl, rfl⟩ (zfc ⟨_, _, _, _, zkc5, by decide, rfl, rfl, rfl, rfl⟩ (zfc ⟨_, _, _, _, zkc6, by decide, rfl, rfl, rfl, rfl⟩ (zfc ⟨_, _, _, _, zkc7, by decide, rfl, rfl, rfl, rfl⟩ (zfc ⟨_, _, _, _, zkc8, by decide, rfl, rfl, rfl, rfl⟩ (zfc ⟨_, _, _, _, zkc10, by decide, rfl, rfl, rfl, rfl⟩ zfn))))))))
theorem zfp_3_people (M : zM) (h : (TX3 0).2.2.2 = false ∨ ((TX3 0).2.2.2 = true ∧ M.1.name = "<init>" ∧ "SlowerForTheLate$Plan" = M.1.cls)) : ∀ ci ∈ ([3] : List Nat), ∃ C T N ty, zKC ci C T N ty ∧ 0 < N ∧ (T 0).1 = "SlowerForTheLate$Plan" ∧ (T 0).2.1 = "people" ∧ (T 0).2.2.1 = "I" ∧ (zFs ci)[0]? = some false ∧ parseFieldDescriptor "I" = some .int ∧ ((T 0).2.2.2 = false ∨ ((T 0).2.2.2 = true ∧ M.1.name = "<init>" ∧ "SlowerForTheLate$Plan" = M.1.cls)) := (zfc ⟨_, _, _, _, zkc3, by decide, rfl, rfl, rfl, rfl, by decide +kernel, h⟩ zfn)
theorem zfp_3_ones (M : zM) (h : (TX3 1).2.2.2 = false ∨ ((TX3 1).2.2.2 = true ∧ M.1.name = "<init>" ∧ "SlowerForTheLate$Plan" = M.1.cls)) : ∀ ci ∈ ([3] : List Nat), ∃ C T N ty, zKC ci C T N ty ∧ 1 < N ∧ (T 1).1 = "SlowerForTheLate$Plan" ∧ (T 1).2.1 = "ones" ∧ (T 1).2.2.1 = "[LSlowerForTheLate$Walker;" ∧ (zFs ci)[1]? = some true ∧ parseFieldDescriptor "[LSlowerForTheLate$Walker;" = some (.array (.object "SlowerForTheLate$Walker")) ∧ ((T 1).2.2.2 = false ∨ ((T 1).2.2.2 = true ∧ M.1.name = "<init>" ∧ "SlowerForTheLate$Plan" = M.1.cls)) := (zfc ⟨_, _, _, _, zkc3, by decide, rfl, rfl, rfl, rfl, by decide +kernel, h⟩ zfn)
theorem zfp_3_from (M : zM) (h : (TX3 2).2.2.2 = false ∨ ((TX3 2).2.2.2 = true ∧ M.1.name = "<init>" ∧ "SlowerForTheLate$Plan" = M.1.cls)) : ∀ ci ∈ ([3] : List Nat), ∃ C T N ty, zKC ci C T N ty ∧ 2 < N ∧ (T 2).1 = "SlowerForTheLate$Plan" ∧ (T 2).2.1 = "from" ∧ (T 2).2.2.1 = "[I" ∧ (zFs ci)[2]? = some true ∧ parseFieldDescriptor "[I" = some (.array .int) ∧ ((T 2).2.2.2 = false ∨ ((T 2).2.2.2 = true ∧ M.1.name = "<init>" ∧ "SlowerForTheLate$Plan" = M.1.cls)) := (zfc ⟨_, _, _, _, zkc3, by decide, rfl, rfl, rfl, rfl, by decide +kernel, h⟩ zfn)
theorem zfp_3_to (M : zM) (h : (TX3 3).2.2.2 = false ∨ ((TX3 3).2.2.2 = true ∧ M.1.name = "<init>" ∧ "SlowerForTheLate$Plan" = M.1.cls)) : ∀ ci ∈ ([3] : List Nat), ∃ C T N ty, zKC ci C T N ty ∧ 3 < N ∧ (T 3).1 = "SlowerForTheLate$Plan" ∧ (T 3).2.1 = "to" ∧ (T 3).2.2.1 = "[I" ∧ (zFs ci)[3]? = some true ∧ parseFieldDescriptor "[I" = some (.array .int) ∧ ((T 3).2.2.2 = false ∨ ((T 3).2.2.2 = true ∧ M.1.name = "<init>" ∧ "SlowerForTheLate$Plan" = M.1.cls)) := (zfc ⟨_, _, _, _, zkc3, by decide, rfl, rfl, rfl, rfl, by decide +kernel, h⟩ zfn)
theorem zfp_3_base (M : zM) (h : (TX3 4).2.2.2 = false ∨ ((TX3 4).2.2.2 = true ∧ M.1.name = "<init>" ∧ "SlowerForTheLate$Plan" = M.1.cls)) : ∀ ci ∈ ([3] : List Nat), ∃ C T N ty, zKC ci C T N ty ∧ 4 < N ∧ (T 4).1 = "SlowerForTheLate$Plan" ∧ (T 4).2.1 = "base" ∧ (T 4).2.2.1 = "[I" ∧ (zFs ci)[4]? = some true ∧ parseFieldDescriptor "[I" = some (.array .int) ∧ ((T 4).2.2.2 = false ∨ ((T 4).2.2.2 = true ∧ M.1.name = "<init>" ∧ "SlowerForTheLate$Plan" = M.1.cls)) := (zfc ⟨_, _, _, _, zkc3, by decide, rfl, rfl, rfl, rfl, by decide +kernel, h⟩ zfn)
theorem zfp_3_trains (M : zM) (h : (TX3 5).2.2.2 = false ∨ ((TX3 5).2.2.2 = true ∧ M.1.name = "<init>" ∧ "SlowerForTheLate$Plan" = M.1.cls)) : ∀ ci ∈ ([3] : List Nat), ∃ C T N ty, zKC ci C T N ty ∧ 5 < N ∧ (T 5).1 = "SlowerForTheLate$Plan" ∧ (T 5).2.1 = "trains" ∧ (T 5).2.2.1 = "I" ∧ (zFs ci)[5]? = some false ∧ parseFieldDescriptor "I" = some .int ∧ ((T 5).2.2.2 = false ∨ ((T 5).2.2.2 = true ∧ M.1.name = "<init>" ∧ "SlowerForTheLate$Plan" = M.1.cls)) := (zfc ⟨_, _, _, _, zkc3, by decide, rfl, rfl, rfl, rfl, by decide +kernel, h⟩ zfn)
theorem zfp_3_start (M : zM) (h : (TX3 6).2.2.2 = false ∨ ((TX3 6).2.2.2 = true ∧ M.1.name = "<init>" ∧ "SlowerForTheLate$Plan" = M.1.cls)) : ∀ ci ∈ ([3] : List Nat), ∃ C T N ty, zKC ci C T N ty ∧ 6 < N ∧ (T 6).1 = "SlowerForTheLate$Plan" ∧ (T 6).2.1 = "start" ∧ (T 6).2.2.1 = "[I" ∧ (zFs ci)[6]? = some true ∧ parseFieldDescriptor "[I" = some (.array .int) ∧ ((T 6).2.2.2 = false ∨ ((T 6).2.2.2 = true ∧ M.1.name = "<init>" ∧ "SlowerForTheLate$Plan" = M.1.cls)) := (zfc ⟨_, _, _, _, zkc3, by decide, rfl, rfl, rfl, rfl, by decide +kernel, h⟩ zfn)
theorem zfp_3_seats (M : zM) (h : (TX3 7).2.2.2 = false ∨ ((TX3 7).2.2.2 = true ∧ M.1.name = "<init>" ∧ "SlowerForTheLate$Plan" = M.1.cls)) : ∀ ci ∈ ([3] : List Nat), ∃ C T N ty, zKC ci C T N ty ∧ 7 < N ∧ (T 7).1 = "SlowerForTheLate$Plan" ∧ (T 7).2.1 = "seats" ∧ (T 7).2.2.1 = "[I" ∧ (zFs ci)[7]? = some true ∧ parseFieldDescriptor "[I" = some (.array .int) ∧ ((T 7).2.2.2 = false ∨ ((T 7).2.2.2 = true ∧ M.1.name = "<init>" ∧ "SlowerForTheLate$Plan" = M.1.cls)) := (zfc ⟨_, _, _, _, zkc3, by decide, rfl, rfl, rfl, rfl, by decide +kernel, h⟩ zfn)
theorem zfp_3_cancelled (M : zM) (h : (TX3 8).2.2.2 = false ∨ ((TX3 8).2.2.2 = true ∧ M.1.name = "<init>" ∧ "SlowerForTheLate$Plan" = M.1.cls)) : ∀ ci ∈ ([3] : List Nat), ∃ C T N ty, zKC ci C T N ty ∧ 8 < N ∧ (T 8).1 = "SlowerForTheLate$Plan" ∧ (T 8).2.1 = "cancelled" ∧ (T 8).2.2.1 = "[Z" ∧ (zFs ci)[8]? = some true ∧ parseFieldDescriptor "[Z" = some (.array .boolean) ∧ ((T 8).2.2.2 = false ∨ ((T 8).2.2.2 = true ∧ M.1.name = "<init>" ∧ "SlowerForTheLate$Plan" = M.1.cls)) := (zfc ⟨_, _, _, _, zkc3, by decide, rfl, rfl, rfl, rfl, by decide +kernel, h⟩ zfn)
theorem zfp_3_runs (M : zM) (h : (TX3 9).2.2.2 = false ∨ ((TX3 9).2.2.2 = true ∧ M.1.name = "<init>" ∧ "SlowerForTheLate$Plan" = M.1.cls)) : ∀ ci ∈ ([3] : List Nat), ∃ C T N ty, zKC ci C T N ty ∧ 9 < N ∧ (T 9).1 = "SlowerForTheLate$Plan" ∧ (T 9).2.1 = "runs" ∧ (T 9).2.2.1 = "[I" ∧ (zFs ci)[9]? = some true ∧ parseFieldDescriptor "[I" = some (.array .int) ∧ ((T 9).2.2.2 = false ∨ ((T 9).2.2.2 = true ∧ M.1.name = "<init>" ∧ "SlowerForTheLate$Plan" = M.1.cls)) := (zfc ⟨_, _, _, _, zkc3, by decide, rfl, rfl, rfl, rfl, by decide +kernel, h⟩ zfn)
theorem zfp_3_rules (M : zM) (h : (TX3 10).2.2.2 = false ∨ ((TX3 10).2.2.2 = true ∧ M.1.name = "<init>" ∧ "SlowerForTheLate$Plan" = M.1.cls)) : ∀ ci ∈ ([3] : List Nat), ∃ C T N ty, zKC ci C T N ty ∧ 10 < N ∧ (T 10).1 = "SlowerForTheLate$Plan" ∧ (T 10).2.1 = "rules" ∧ (T 10).2.2.1 = "[I" ∧ (zFs ci)[10]? = some true ∧ parseFieldDescriptor "[I" = some (.array .int) ∧ ((T 10).2.2.2 = false ∨ ((T 10).2.2.2 = true ∧ M.1.name = "<init>" ∧ "SlowerForTheLate$Plan" = M.1.cls)) := (zfc ⟨_, _, _, _, zkc3, by decide, rfl, rfl, rfl, rfl, by decide +kernel, h⟩ zfn)
theorem zfg_3_ones : ∀ ci ∈ ([3] : List Nat), ∃ C T N ty, zKC ci C T N ty ∧ 1 < N ∧ (T 1).1 = "SlowerForTheLate$Plan" ∧ (T 1).2.1 = "ones" ∧ (T 1).2.2.1 = "[LSlowerForTheLate$Walker;" ∧ (zFs ci)[1]? = some true := (zfc ⟨_, _, _, _, zkc3, by decide, rfl, rfl, rfl, rfl⟩ zfn)
theorem zfg_3_people : ∀ ci ∈ ([3] : List Nat), ∃ C T N ty, zKC ci C T N ty ∧ 0 < N ∧ (T 0).1 = "SlowerForTheLate$Plan" ∧ (T 0).2.1 = "people" ∧ (T 0).2.2.1 = "I" ∧ (zFs ci)[0]? = some false := (zfc ⟨_, _, _, _, zkc3, by decide, rfl, rfl, rfl, rfl⟩ zfn)
theorem zfg_3_trains : ∀ ci ∈ ([3] : List Nat), ∃ C T N ty, zKC ci C T N ty ∧ 5 < N ∧ (T 5).1 = "SlowerForTheLate$Plan" ∧ (T 5).2.1 = "trains" ∧ (T 5).2.2.1 = "I" ∧ (zFs ci)[5]? = some false := (zfc ⟨_, _, _, _, zkc3, by decide, rfl, rfl, rfl, rfl⟩ zfn)
theorem zfg_3_from : ∀ ci ∈ ([3] : List Nat), ∃ C T N ty, zKC ci C T N ty ∧ 2 < N ∧ (T 2).1 = "SlowerForTheLate$Plan" ∧ (T 2).2.1 = "from" ∧ (T 2).2.2.1 = "[I" ∧ (zFs ci)[2]? = some true := (zfc ⟨_, _, _, _, zkc3, by decide, rfl, rfl, rfl, rfl⟩ zfn)
theorem zfg_3_to : ∀ ci ∈ ([3] : List Nat), ∃ C T N ty, zKC ci C T N ty ∧ 3 < N ∧ (T 3).1 = "SlowerForTheLate$Plan" ∧ (T 3).2.1 = "to" ∧ (T 3).2.2.1 = "[I" ∧ (zFs ci)[3]? = some true := (zfc ⟨_, _, _, _, zkc3, by decide, rfl, rfl, rfl, rfl⟩ zfn)
theorem zfg_3_base : ∀ ci ∈ ([3] : List Nat), ∃ C T N ty, zKC ci C T N ty ∧ 4 < N ∧ (T 4).1 = "SlowerForTheLate$Plan" ∧ (T 4).2.1 = "base" ∧ (T 4).2.2.1 = "[I" ∧ (zFs ci)[4]? = some true := (zfc ⟨_, _, _, _, zkc3, by decide, rfl, rfl, rfl, rfl⟩ zfn)
theorem zfg_3_start : ∀ ci ∈ ([3] : List Nat), ∃ C T N ty, zKC ci C T N ty ∧ 6 < N ∧ (T 6).1 = "SlowerForTheLate$Plan" ∧ (T 6).2.1 = "start" ∧ (T 6).2.2.1 = "[I" ∧ (zFs ci)[6]? = some true := (zfc ⟨_, _, _, _, zkc3, by decide, rfl, rfl, rfl, rfl⟩ zfn)
theorem zfg_3_seats : ∀ ci ∈ ([3] : List Nat), ∃ C T N ty, zKC ci C T N ty ∧ 7 < N ∧ (T 7).1 = "SlowerForTheLate$Plan" ∧ (T 7).2.1 = "seats" ∧ (T 7).2.2.1 = "[I" ∧ (zFs ci)[7]? = some true := (zfc ⟨_, _, _, _, zkc3, by decide, rfl, rfl, rfl, rfl⟩ zfn)
theorem zfg_3_cancelled : ∀ ci ∈ ([3] : List Nat), ∃ C T N ty, zKC ci C T N ty ∧ 8 < N ∧ (T 8).1 = "SlowerForTheLate$Plan" ∧ (T 8).2.1 = "cancelled" ∧ (T 8).2.2.1 = "[Z" ∧ (zFs ci)[8]? = some true := (zfc ⟨_, _, _, _, zkc3, by decide, rfl, rfl, rfl, rfl⟩ zfn)
theorem zfg_3_runs : ∀ ci ∈ ([3] : List Nat), ∃ C T N ty, zKC ci C T N ty ∧ 9 < N ∧ (T 9).1 = "SlowerForTheLate$Plan" ∧ (T 9).2.1 = "runs" ∧ (T 9).2.2.1 = "[I" ∧ (zFs ci)[9]? = some true := (zfc ⟨_, _, _, _, zkc3, by decide, rfl, rfl, rfl, rfl⟩ zfn)
theorem zfg_3_rules : ∀ ci ∈ ([3] : List Nat), ∃ C T N ty, zKC ci C T N ty ∧ 10 < N ∧ (T 10).1 = "SlowerForTheLate$Plan" ∧ (T 10).2.1 = "rules" ∧ (T 10).2.2.1 = "[I" ∧ (zFs ci)[10]? = some true := (zfc ⟨_, _, _, _, zkc3, by decide, rfl, rfl, rfl, rfl⟩ zfn)
theorem zfp_4_sort (M : zM) (h : (TX4 0).2.2.2 = false ∨ ((TX4 0).2.2.2 = true ∧ M.1.name = "<init>" ∧ "SlowerForTheLate$Row" = M.1.cls)) : ∀ ci ∈ ([4] : List Nat), ∃ C T N ty, zKC ci C T N ty ∧ 0 < N ∧ (T 0).1 = "SlowerForTheLate$Row" ∧ (T 0).2.1 = "sort" ∧ (T 0).2.2.1 = "I" ∧ (zFs ci)[0]? = some false ∧ parseFieldDescriptor "I" = some .int ∧ ((T 0).2.2.2 = false ∨ ((T 0).2.2.2 = true ∧ M.1.name = "<init>" ∧ "SlowerForTheLate$Row" = M.1.cls)) := (zfc ⟨_, _, _, _, zkc4, by decide, rfl, rfl, rfl, rfl, by decide +kernel, h⟩ zfn)
theorem zfp_4_cells (M : zM) (h : (TX4 1).2.2.2 = false ∨ ((TX4 1).2.2.2 = true ∧ M.1.name = "<init>" ∧ "SlowerForTheLate$Row" = M.1.cls)) : ∀ ci ∈ ([4] : List Nat), ∃ C T N ty, zKC ci C T N ty ∧ 1 < N ∧ (T 1).1 = "SlowerForTheLate$Row" ∧ (T 1).2.1 = "cells" ∧ (T 1).2.2.1 = "[I" ∧ (zFs ci)[1]? = some true ∧ parseFieldDescriptor "[I" = some (.array .int) ∧ ((T 1).2.2.2 = false ∨ ((T 1).2.2.2 = true ∧ M.1.name = "<init>" ∧ "SlowerForTheLate$Row" = M.1.cls)) := (zfc ⟨_, _, _, _, zkc4, by decide, rfl, rfl, rfl, rfl, by decide +kernel, h⟩ zfn)
theorem zfg_4_cells : ∀ ci ∈ ([4] : List Nat), ∃ C T N ty, zKC ci C T N ty ∧ 1 < N ∧ (T 1).1 = "SlowerForTheLate$Row" ∧ (T 1).2.1 = "cells" ∧ (T 1).2.2.1 = "[I" ∧ (zFs ci)[1]? = some true := (zfc ⟨_, _, _, _, zkc4, by decide, rfl, rfl, rfl, rfl⟩ zfn)
theorem zfg_4_sort : ∀ ci ∈ ([4] : List Nat), ∃ C T N ty, zKC ci C T N ty ∧ 0 < N ∧ (T 0).1 = "SlowerForTheLate$Row" ∧ (T 0).2.1 = "sort" ∧ (T 0).2.2.1 = "I" ∧ (zFs ci)[0]? = some false := (zfc ⟨_, _, _, _, zkc4, by decide, rfl, rfl, rfl, rfl⟩ zfn)
theorem zfp_9_comesAt (M : zM) (h : (TX9 0).2.2.2 = false ∨ ((TX9 0).2.2.2 = true ∧ M.1.name = "<init>" ∧ "SlowerForTheLate$Trip" = M.1.cls)) : ∀ ci ∈ ([9] : List Nat), ∃ C T N ty, zKC ci C T N ty ∧ 0 < N ∧ (T 0).1 = "SlowerForTheLate$Trip" ∧ (T 0).2.1 = "comesAt" ∧ (T 0).2.2.1 = "[I" ∧ (zFs ci)[0]? = some true ∧ parseFieldDescriptor "[I" = some (.array .int) ∧ ((T 0).2.2.2 = false ∨ ((T 0).2.2.2 = true ∧ M.1.name = "<init>" ∧ "SlowerForTheLate$Trip" = M.1.cls)) := (zfc ⟨_, _, _, _, zkc9, by decide, rfl, rfl, rfl, rfl, by decide +kernel, h⟩ zfn)
theorem zfp_9_turn (M : zM) (h : (TX9 1).2.2.2 = false ∨ ((TX9 1).2.2.2 = true ∧ M.1.name = "<init>" ∧ "SlowerForTheLate$Trip" = M.1.cls)) : ∀ ci ∈ ([9] : List Nat), ∃ C T N ty, zKC ci C T N ty ∧ 1 < N ∧ (T 1).1 = "SlowerForTheLate$Trip" ∧ (T 1).2.1 = "turn" ∧ (T 1).2.2.1 = "[I" ∧ (zFs ci)[1]? = some true ∧ parseFieldDescriptor "[I" = some (.array .int) ∧ ((T 1).2.2.2 = false ∨ ((T 1).2.2.2 = true ∧ M.1.name = "<init>" ∧ "SlowerForTheLate$Trip" = M.1.cls)) := (zfc ⟨_, _, _, _, zkc9, by decide, rfl, rfl, rfl, rfl, by decide +kernel, h⟩ zfn)
theorem zfp_9_mayBeLate (M : zM) (h : (TX9 2).2.2.2 = false ∨ ((TX9 2).2.2.2 = true ∧ M.1.name = "<init>" ∧ "SlowerForTheLate$Trip" = M.1.cls)) : ∀ ci ∈ ([9] : List Nat), ∃ C T N ty, zKC ci C T N ty ∧ 2 < N ∧ (T 2).1 = "SlowerForTheLate$Trip" ∧ (T 2).2.1 = "mayBeLate" ∧ (T 2).2.2.1 = "[I" ∧ (zFs ci)[2]? = some true ∧ parseFieldDescriptor "[I" = some (.array .int) ∧ ((T 2).2.2.2 = false ∨ ((T 2).2.2.2 = true ∧ M.1.name = "<init>" ∧ "SlowerForTheLate$Trip" = M.1.cls)) := (zfc ⟨_, _, _, _, zkc9, by decide, rfl, rfl, rfl, rfl, by decide +kernel, h⟩ zfn)
theorem zfp_9_places (M : zM) (h : (TX9 3).2.2.2 = false ∨ ((TX9 3).2.2.2 = true ∧ M.1.name = "<init>" ∧ "SlowerForTheLate$Trip" = M.1.cls)) : ∀ ci ∈ ([9] : List Nat), ∃ C T N ty, zKC ci C T N ty ∧ 3 < N ∧ (T 3).1 = "SlowerForTheLate$Trip" ∧ (T 3).2.1 = "places" ∧ (T 3).2.2.1 = "[I" ∧ (zFs ci)[3]? = some true ∧ parseFieldDescriptor "[I" = some (.array .int) ∧ ((T 3).2.2.2 = false ∨ ((T 3).2.2.2 = true ∧ M.1.name = "<init>" ∧ "SlowerForTheLate$Trip" = M.1.cls)) := (zfc ⟨_, _, _, _, zkc9, by decide, rfl, rfl, rfl, rfl, by decide +kernel, h⟩ zfn)
theorem zfp_9_offAt (M : zM) (h : (TX9 4).2.2.2 = false ∨ ((TX9 4).2.2.2 = true ∧ M.1.name = "<init>" ∧ "SlowerForTheLate$Trip" = M.1.cls)) : ∀ ci ∈ ([9] : List Nat), ∃ C T N ty, zKC ci C T N ty ∧ 4 < N ∧ (T 4).1 = "SlowerForTheLate$Trip" ∧ (T 4).2.1 = "offAt" ∧ (T 4).2.2.1 = "[I" ∧ (zFs ci)[4]? = some true ∧ parseFieldDescriptor "[I" = some (.array .int) ∧ ((T 4).2.2.2 = false ∨ ((T 4).2.2.2 = true ∧ M.1.name = "<init>" ∧ "SlowerForTheLate$Trip" = M.1.cls)) := (zfc ⟨_, _, _, _, zkc9, by decide, rfl, rfl, rfl, rfl, by decide +kernel, h⟩ zfn)
theorem zfp_9_asked (M : zM) (h : (TX9 5).2.2.2 = false ∨ ((TX9 5).2.2.2 = true ∧ M.1.name = "<init>" ∧ "SlowerForTheLate$Trip" = M.1.cls)) : ∀ ci ∈ ([9] : List Nat), ∃ C T N ty, zKC ci C T N ty ∧ 5 < N ∧ (T 5).1 = "SlowerForTheLate$Trip" ∧ (T 5).2.1 = "asked" ∧ (T 5).2.2.1 = "[I" ∧ (zFs ci)[5]? = some true ∧ parseFieldDescriptor "[I" = some (.array .int) ∧ ((T 5).2.2.2 = false ∨ ((T 5).2.2.2 = true ∧ M.1.name = "<init>" ∧ "SlowerForTheLate$Trip" = M.1.cls)) := (zfc ⟨_, _, _, _, zkc9, by decide, rfl, rfl, rfl, rfl, by decide +kernel, h⟩ zfn)
theorem zfp_9_people (M : zM) (h : (TX9 6).2.2.2 = false ∨ ((TX9 6).2.2.2 = true ∧ M.1.name = "<init>" ∧ "SlowerForTheLate$Trip" = M.1.cls)) : ∀ ci ∈ ([9] : List Nat), ∃ C T N ty, zKC ci C T N ty ∧ 6 < N ∧ (T 6).1 = "SlowerForTheLate$Trip" ∧ (T 6).2.1 = "people" ∧ (T 6).2.2.1 = "I" ∧ (zFs ci)[6]? = some false ∧ parseFieldDescriptor "I" = some .int ∧ ((T 6).2.2.2 = false ∨ ((T 6).2.2.2 = true ∧ M.1.name = "<init>" ∧ "SlowerForTheLate$Trip" = M.1.cls)) := (zfc ⟨_, _, _, _, zkc9, by decide, rfl, rfl, rfl, rfl, by decide +kernel, h⟩ zfn)
theorem zfp_9_ticket (M : zM) (h : (TX9 7).2.2.2 = false ∨ ((TX9 7).2.2.2 = true ∧ M.1.name = "<init>" ∧ "SlowerForTheLate$Trip" = M.1.cls)) : ∀ ci ∈ ([9] : List Nat), ∃ C T N ty, zKC ci C T N ty ∧ 7 < N ∧ (T 7).1 = "SlowerForTheLate$Trip" ∧ (T 7).2.1 = "ticket" ∧ (T 7).2.2.1 = "[I" ∧ (zFs ci)[7]? = some true ∧ parseFieldDescriptor "[I" = some (.array .int) ∧ ((T 7).2.2.2 = false ∨ ((T 7).2.2.2 = true ∧ M.1.name = "<init>" ∧ "SlowerForTheLate$Trip" = M.1.cls)) := (zfc ⟨_, _, _, _, zkc9, by decide, rfl, rfl, rfl, rfl, by decide +kernel, h⟩ zfn)
theorem zfp_9_onAt (M : zM) (h : (TX9 8).2.2.2 = false ∨ ((TX9 8).2.2.2 = true ∧ M.1.name = "<init>" ∧ "SlowerForTheLate$Trip" = M.1.cls)) : ∀ ci ∈ ([9] : List Nat), ∃ C T N ty, zKC ci C T N ty ∧ 8 < N ∧ (T 8).1 = "SlowerForTheLate$Trip" ∧ (T 8).2.1 = "onAt" ∧ (T 8).2.2.1 = "[I" ∧ (zFs ci)[8]? = some true ∧ parseFieldDescriptor "[I" = some (.array .int) ∧ ((T 8).2.2.2 = false ∨ ((T 8).2.2.2 = true ∧ M.1.name = "<init>" ∧ "SlowerForTheLate$Trip" = M.1.cls)) := (zfc ⟨_, _, _, _, zkc9, by decide, rfl, rfl, rfl, rfl, by decide +kernel, h⟩ zfn)
theorem zfp_9_arrivedAt (M : zM) (h : (TX9 9).2.2.2 = false ∨ ((TX9 9).2.2.2 = true ∧ M.1.name = "<init>" ∧ "SlowerForTheLate$Trip" = M.1.cls)) : ∀ ci ∈ ([9] : List Nat), ∃ C T N ty, zKC ci C T N ty ∧ 9 < N ∧ (T 9).1 = "SlowerForTheLate$Trip" ∧ (T 9).2.1 = "arrivedAt" ∧ (T 9).2.2.1 = "[I" ∧ (zFs ci)[9]? = some true ∧ parseFieldDescriptor "[I" = some (.array .int) ∧ ((T 9).2.2.2 = false ∨ ((T 9).2.2.2 = true ∧ M.1.name = "<init>" ∧ "SlowerForTheLate$Trip" = M.1.cls)) := (zfc ⟨_, _, _, _, zkc9, by decide, rfl, rfl, rfl, rfl, by decide +kernel, h⟩ zfn)
theorem zfp_9_pushed (M : zM) (h : (TX9 10).2.2.2 = false ∨ ((TX9 10).2.2.2 = true ∧ M.1.name = "<init>" ∧ "SlowerForTheLate$Trip" = M.1.cls)) : ∀ ci ∈ ([9] : List Nat), ∃ C T N ty, zKC ci C T N ty ∧ 10 < N ∧ (T 10).1 = "SlowerForTheLate$Trip" ∧ (T 10).2.1 = "pushed" ∧ (T 10).2.2.1 = "[I" ∧ (zFs ci)[10]? = some true ∧ parseFieldDescriptor "[I" = some (.array .int) ∧ ((T 10).2.2.2 = false ∨ ((T 10).2.2.2 = true ∧ M.1.name = "<init>" ∧ "SlowerForTheLate$Trip" = M.1.cls)) := (zfc ⟨_, _, _, _, zkc9, by decide, rfl, rfl, rfl, rfl, by decide +kernel, h⟩ zfn)
theorem zfp_9_missed (M : zM) (h : (TX9 11).2.2.2 = false ∨ ((TX9 11).2.2.2 = true ∧ M.1.name = "<init>" ∧ "SlowerForTheLate$Trip" = M.1.cls)) : ∀ ci ∈ ([9] : List Nat), ∃ C T N ty, zKC ci C T N ty ∧ 11 < N ∧ (T 11).1 = "SlowerForTheLate$Trip" ∧ (T 11).2.1 = "missed" ∧ (T 11).2.2.1 = "[I" ∧ (zFs ci)[11]? = some true ∧ parseFieldDescriptor "[I" = some (.array .int) ∧ ((T 11).2.2.2 = false ∨ ((T 11).2.2.2 = true ∧ M.1.name = "<init>" ∧ "SlowerForTheLate$Trip" = M.1.cls)) := (zfc ⟨_, _, _, _, zkc9, by decide, rfl, rfl, rfl, rfl, by decide +kernel, h⟩ zfn)
theorem zfp_9_minuteAt (M : zM) (h : (TX9 12).2.2.2 = false ∨ ((TX9 12).2.2.2 = true ∧ M.1.name = "<init>" ∧ "SlowerForTheLate$Trip" = M.1.cls)) : ∀ ci ∈ ([9] : List Nat), ∃ C T N ty, zKC ci C T N ty ∧ 12 < N ∧ (T 12).1 = "SlowerForTheLate$Trip" ∧ (T 12).2.1 = "minuteAt" ∧ (T 12).2.2.1 = "[I" ∧ (zFs ci)[12]? = some true ∧ parseFieldDescriptor "[I" = some (.array .int) ∧ ((T 12).2.2.2 = false ∨ ((T 12).2.2.2 = true ∧ M.1.name = "<init>" ∧ "SlowerForTheLate$Trip" = M.1.cls)) := (zfc ⟨_, _, _, _, zkc9, by decide, rfl, rfl, rfl, rfl, by decide +kernel, h⟩ zfn)
theorem zfp_9_aboardFrom (M : zM) (h : (TX9 13).2.2.2 = false ∨ ((TX9 13).2.2.2 = true ∧ M.1.name = "<init>" ∧ "SlowerForTheLate$Trip" = M.1.cls)) : ∀ ci ∈ ([9] : List Nat), ∃ C T N ty, zKC ci C T N ty ∧ 13 < N ∧ (T 13).1 = "SlowerForTheLate$Trip" ∧ (T 13).2.1 = "aboardFrom" ∧ (T 13).2.2.1 = "[I" ∧ (zFs ci)[13]? = some true ∧ parseFieldDescriptor "[I" = some (.array .int) ∧ ((T 13).2.2.2 = false ∨ ((T 13).2.2.2 = true ∧ M.1.name = "<init>" ∧ "SlowerForTheLate$Trip" = M.1.cls)) := (zfc ⟨_, _, _, _, zkc9, by decide, rfl, rfl, rfl, rfl, by decide +kernel, h⟩ zfn)
theorem zfp_9_mostTaken (M : zM) (h : (TX9 14).2.2.2 = false ∨ ((TX9 14).2.2.2 = true ∧ M.1.name = "<init>" ∧ "SlowerForTheLate$Trip" = M.1.cls)) : ∀ ci ∈ ([9] : List Nat), ∃ C T N ty, zKC ci C T N ty ∧ 14 < N ∧ (T 14).1 = "SlowerForTheLate$Trip" ∧ (T 14).2.1 = "mostTaken" ∧ (T 14).2.2.1 = "[I" ∧ (zFs ci)[14]? = some true ∧ parseFieldDescriptor "[I" = some (.array .int) ∧ ((T 14).2.2.2 = false ∨ ((T 14).2.2.2 = true ∧ M.1.name = "<init>" ∧ "SlowerForTheLate$Trip" = M.1.cls)) := (zfc ⟨_, _, _, _, zkc9, by decide, rfl, rfl, rfl, rfl, by decide +kernel, h⟩ zfn)
theorem zfp_9_aboardBits (M : zM) (h : (TX9 15).2.2.2 = false ∨ ((TX9 15).2.2.2 = true ∧ M.1.name = "<init>" ∧ "SlowerForTheLate$Trip" = M.1.cls)) : ∀ ci ∈ ([9] : List Nat), ∃ C T N ty, zKC ci C T N ty ∧ 15 < N ∧ (T 15).1 = "SlowerForTheLate$Trip" ∧ (T 15).2.1 = "aboardBits" ∧ (T 15).2.2.1 = "[I" ∧ (zFs ci)[15]? = some true ∧ parseFieldDescriptor "[I" = some (.array .int) ∧ ((T 15).2.2.2 = false ∨ ((T 15).2.2.2 = true ∧ M.1.name = "<init>" ∧ "SlowerForTheLate$Trip" = M.1.cls)) := (zfc ⟨_, _, _, _, zkc9, by decide, rfl, rfl, rfl, rfl, by decide +kernel, h⟩ zfn)
theorem zfp_9_taken (M : zM) (h : (TX9 16).2.2.2 = false ∨ ((TX9 16).2.2.2 = true ∧ M.1.name = "<init>" ∧ "SlowerForTheLate$Trip" = M.1.cls)) : ∀ ci ∈ ([9] : List Nat), ∃ C T N ty, zKC ci C T N ty ∧ 16 < N ∧ (T 16).1 = "SlowerForTheLate$Trip" ∧ (T 16).2.1 = "taken" ∧ (T 16).2.2.1 = "[I" ∧ (zFs ci)[16]? = some true ∧ parseFieldDescriptor "[I" = some (.array .int) ∧ ((T 16).2.2.2 = false ∨ ((T 16).2.2.2 = true ∧ M.1.name = "<init>" ∧ "SlowerForTheLate$Trip" = M.1.cls)) := (zfc ⟨_, _, _, _, zkc9, by decide, rfl, rfl, rfl, rfl, by decide +kernel, h⟩ zfn)
theorem zfp_9_queue (M : zM) (h : (TX9 17).2.2.2 = false ∨ ((TX9 17).2.2.2 = true ∧ M.1.name = "<init>" ∧ "SlowerForTheLate$Trip" = M.1.cls)) : ∀ ci ∈ ([9] : List Nat), ∃ C T N ty, zKC ci C T N ty ∧ 17 < N ∧ (T 17).1 = "SlowerForTheLate$Trip" ∧ (T 17).2.1 = "queue" ∧ (T 17).2.2.1 = "[I" ∧ (zFs ci)[17]? = some true ∧ parseFieldDescriptor "[I" = some (.array .int) ∧ ((T 17).2.2.2 = false ∨ ((T 17).2.2.2 = true ∧ M.1.name = "<init>" ∧ "SlowerForTheLate$Trip" = M.1.cls)) := (zfc ⟨_, _, _, _, zkc9, by decide, rfl, rfl, rfl, rfl, by decide +kernel, h⟩ zfn)
theorem zfp_9_running (M : zM) (h : (TX9 18).2.2.2 = false ∨ ((TX9 18).2.2.2 = true ∧ M.1.name = "<init>" ∧ "SlowerForTheLate$Trip" = M.1.cls)) : ∀ ci ∈ ([9] : List Nat), ∃ C T N ty, zKC ci C T N ty ∧ 18 < N ∧ (T 18).1 = "SlowerForTheLate$Trip" ∧ (T 18).2.1 = "running" ∧ (T 18).2.2.1 = "I" ∧ (zFs ci)[18]? = some false ∧ parseFieldDescriptor "I" = some .int ∧ ((T 18).2.2.2 = false ∨ ((T 18).2.2.2 = true ∧ M.1.name = "<init>" ∧ "SlowerForTheLate$Trip" = M.1.cls)) := (zfc ⟨_, _, _, _, zkc9, by decide, rfl, rfl, rfl, rfl, by decide +kernel, h⟩ zfn)
theorem zfg_9_ticket : ∀ ci ∈ ([9] : List Nat), ∃ C T N ty, zKC ci C T N ty ∧ 7 < N ∧ (T 7).1 = "SlowerForTheLate$Trip" ∧ (T 7).2.1 = "ticket" ∧ (T 7).2.2.1 = "[I" ∧ (zFs ci)[7]? = some true := (zfc ⟨_, _, _, _, zkc9, by decide, rfl, rfl, rfl, rfl⟩ zfn)
theorem zfg_9_arrivedAt : ∀ ci ∈ ([9] : List Nat), ∃ C T N ty, zKC ci C T N ty ∧ 9 < N ∧ (T 9).1 = "SlowerForTheLate$Trip" ∧ (T 9).2.1 = "arrivedAt" ∧ (T 9).2.2.1 = "[I" ∧ (zFs ci)[9]? = some true := (zfc ⟨_, _, _, _, zkc9, by decide, rfl, rfl, rfl, rfl⟩ zfn)
theorem zfg_9_missed : ∀ ci ∈ ([9] : List Nat), ∃ C T N ty, zKC ci C T N ty ∧ 11 < N ∧ (T 11).1 = "SlowerForTheLate$Trip" ∧ (T 11).2.1 = "missed" ∧ (T 11).2.2.1 = "[I" ∧ (zFs ci)[11]? = some true := (zfc ⟨_, _, _, _, zkc9, by decide, rfl, rfl, rfl, rfl⟩ zfn)
theorem zfg_9_people : ∀ ci ∈ ([9] : List Nat), ∃ C T N ty, zKC ci C T N ty ∧ 6 < N ∧ (T 6).1 = "SlowerForTheLate$Trip" ∧ (T 6).2.1 = "people" ∧ (T 6).2.2.1 = "I" ∧ (zFs ci)[6]? = some false := (zfc ⟨_, _, _, _, zkc9, by decide, rfl, rfl, rfl, rfl⟩ zfn)
theorem zfg_9_running : ∀ ci ∈ ([9] : List Nat), ∃ C T N ty, zKC ci C T N ty ∧ 18 < N ∧ (T 18).1 = "SlowerForTheLate$Trip" ∧ (T 18).2.1 = "running" ∧ (T 18).2.2.1 = "I" ∧ (zFs ci)[18]? = some false := (zfc ⟨_, _, _, _, zkc9, by decide, rfl, rfl, rfl, rfl⟩ zfn)
theorem zfg_9_queue : ∀ ci ∈ ([9] : List Nat), ∃ C T N ty, zKC ci C T N ty ∧ 17 < N ∧ (T 17).1 = "SlowerForTheLate$Trip" ∧ (T 17).2.1 = "queue" ∧ (T 17).2.2.1 = "[I" ∧ (zFs ci)[17]? = some true := (zfc ⟨_, _, _, _, zkc9, by decide, rfl, rfl, rfl, rfl⟩ zfn)
theorem zfg_9_comesAt : ∀ ci ∈ ([9] : List Nat), ∃ C T N ty, zKC ci C T N ty ∧ 0 < N ∧ (T 0).1 = "SlowerForTheLate$Trip" ∧ (T 0).2.1 = "comesAt" ∧ (T 0).2.2.1 = "[I" ∧ (zFs ci)[0]? = some true := (zfc ⟨_, _, _, _, zkc9, by decide, rfl, rfl, rfl, rfl⟩ zfn)
theorem zfg_9_turn : ∀ ci ∈ ([9] : List Nat), ∃ C T N ty, zKC ci C T N ty ∧ 1 < N ∧ (T 1).1 = "SlowerForTheLate$Trip" ∧ (T 1).2.1 = "turn" ∧ (T 1).2.2.1 = "[I" ∧ (zFs ci)[1]? = some true := (zfc ⟨_, _, _, _, zkc9, by decide, rfl, rfl, rfl, rfl⟩ zfn)
theorem zfg_9_mayBeLate : ∀ ci ∈ ([9] : List Nat), ∃ C T N ty, zKC ci C T N ty ∧ 2 < N ∧ (T 2).1 = "SlowerForTheLate$Trip" ∧ (T 2).2.1 = "mayBeLate" ∧ (T 2).2.2.1 = "[I" ∧ (zFs ci)[2]? = some true := (zfc ⟨_, _, _, _, zkc9, by decide, rfl, rfl, rfl, rfl⟩ zfn)
theorem zfg_9_places : ∀ ci ∈ ([9] : List Nat), ∃ C T N ty, zKC ci C T N ty ∧ 3 < N ∧ (T 3).1 = "SlowerForTheLate$Trip" ∧ (T 3).2.1 = "places" ∧ (T 3).2.2.1 = "[I" ∧ (zFs ci)[3]? = some true := (zfc ⟨_, _, _, _, zkc9, by decide, rfl, rfl, rfl, rfl⟩ zfn)
theorem zfg_9_offAt : ∀ ci ∈ ([9] : List Nat), ∃ C T N ty, zKC ci C T N ty ∧ 4 < N ∧ (T 4).1 = "SlowerForTheLate$Trip" ∧ (T 4).2.1 = "offAt" ∧ (T 4).2.2.1 = "[I" ∧ (zFs ci)[4]? = some true := (zfc ⟨_, _, _, _, zkc9, by decide, rfl, rfl, rfl, rfl⟩ zfn)
theorem zfg_9_pushed : ∀ ci ∈ ([9] : List Nat), ∃ C T N ty, zKC ci C T N ty ∧ 10 < N ∧ (T 10).1 = "SlowerForTheLate$Trip" ∧ (T 10).2.1 = "pushed" ∧ (T 10).2.2.1 = "[I" ∧ (zFs ci)[10]? = some true := (zfc ⟨_, _, _, _, zkc9, by decide, rfl, rfl, rfl, rfl⟩ zfn)
theorem zfg_9_asked : ∀ ci ∈ ([9] : List Nat), ∃ C T N ty, zKC ci C T N ty ∧ 5 < N ∧ (T 5).1 = "SlowerForTheLate$Trip" ∧ (T 5).2.1 = "asked" ∧ (T 5).2.2.1 = "[I" ∧ (zFs ci)[5]? = some true := (zfc ⟨_, _, _, _, zkc9, by decide, rfl, rfl, rfl, rfl⟩ zfn)
theorem zfg_9_minuteAt : ∀ ci ∈ ([9] : List Nat), ∃ C T N ty, zKC ci C T N ty ∧ 12 < N ∧ (T 12).1 = "SlowerForTheLate$Trip" ∧ (T 12).2.1 = "minuteAt" ∧ (T 12).2.2.1 = "[I" ∧ (zFs ci)[12]? = some true := (zfc ⟨_, _, _, _, zkc9, by decide, rfl, rfl, rfl, rfl⟩ zfn)
theorem zfg_9_aboardBits : ∀ ci ∈ ([9] : List Nat), ∃ C T N ty, zKC ci C T N ty ∧ 15 < N ∧ (T 15).1 = "SlowerForTheLate$Trip" ∧ (T 15).2.1 = "aboardBits" ∧ (T 15).2.2.1 = "[I" ∧ (zFs ci)[15]? = some true := (zfc ⟨_, _, _, _, zkc9, by decide, rfl, rfl, rfl, rfl⟩ zfn)
theorem zfg_9_taken : ∀ ci ∈ ([9] : List Nat), ∃ C T N ty, zKC ci C T N ty ∧ 16 < N ∧ (T 16).1 = "SlowerForTheLate$Trip" ∧ (T 16).2.1 = "taken" ∧ (T 16).2.2.1 = "[I" ∧ (zFs ci)[16]? = some true := (zfc ⟨_, _, _, _, zkc9, by decide, rfl, rfl, rfl, rfl⟩ zfn)
theorem zfg_9_mostTaken : ∀ ci ∈ ([9] : List Nat), ∃ C T N ty, zKC ci C T N ty ∧ 14 < N ∧ (T 14).1 = "SlowerForTheLate$Trip" ∧ (T 14).2.1 = "mostTaken" ∧ (T 14).2.2.1 = "[I" ∧ (zFs ci)[14]? = some true := (zfc ⟨_, _, _, _, zkc9, by decide, rfl, rfl, rfl, rfl⟩ zfn)
theorem zfg_9_aboardFrom : ∀ ci ∈ ([9] : List Nat), ∃ C T N ty, zKC ci C T N ty ∧ 13 < N ∧ (T 13).1 = "SlowerForTheLate$Trip" ∧ (T 13).2.1 = "aboardFrom" ∧ (T 13).2.2.1 = "[I" ∧ (zFs ci)[13]? = some true := (zfc ⟨_, _, _, _, zkc9, by decide, rfl, rfl, rfl, rfl⟩ zfn)
theorem zfg_9_onAt : ∀ ci ∈ ([9] : List Nat), ∃ C T N ty, zKC ci C T N ty ∧ 8 < N ∧ (T 8).1 = "SlowerForTheLate$Trip" ∧ (T 8).2.1 = "onAt" ∧ (T 8).2.2.1 = "[I" ∧ (zFs ci)[8]? = some true := (zfc ⟨_, _, _, _, zkc9, by decide, rfl, rfl, rfl, rfl⟩ zfn)
theorem zfp_0_kind (M : zM) (h : (TX0 0).2.2.2 = false ∨ ((TX0 0).2.2.2 = true ∧ M.1.name = "<init>" ∧ "SlowerForTheLate$Walker" = M.1.cls)) : ∀ ci ∈ ([0, 1, 2, 5, 6, 7, 8, 10] : List Nat), ∃ C T N ty, zKC ci C T N ty ∧ 0 < N ∧ (T 0).1 = "SlowerForTheLate$Walker" ∧ (T 0).2.1 = "kind" ∧ (T 0).2.2.1 = "I" ∧ (zFs ci)[0]? = some false ∧ parseFieldDescriptor "I" = some .int ∧ ((T 0).2.2.2 = false ∨ ((T 0).2.2.2 = true ∧ M.1.name = "<init>" ∧ "SlowerForTheLate$Walker" = M.1.cls)) := (zfc ⟨_, _, _, _, zkc0, by decide, rfl, rfl, rfl, rfl, by decide +kernel, h⟩ (zfc ⟨_, _, _, _, zkc1, by decide, rfl, rfl, rfl, rfl, by decide +kernel, h⟩ (zfc ⟨_, _, _, _, zkc2, by decide, rfl, rfl, rfl, rfl, by decide +kernel, h⟩ (zfc ⟨_, _, _, _, zkc5, by decide, rfl, rfl, rfl, rfl, by decide +kernel, h⟩ (zfc ⟨_, _, _, _, zkc6, by decide, rfl, rfl, rfl, rfl, by decide +kernel, h⟩ (zfc ⟨_, _, _, _, zkc7, by decide, rfl, rfl, rfl, rfl, by decide +kernel, h⟩ (zfc ⟨_, _, _, _, zkc8, by decide, rfl, rfl, rfl, rfl, by decide +kernel, h⟩ (zfc ⟨_, _, _, _, zkc10, by decide, rfl, rfl, rfl, rfl, by decide +kernel, h⟩ zfn))))))))
theorem zfp_0_figure (M : zM) (h : (TX0 1).2.2.2 = false ∨ ((TX0 1).2.2.2 = true ∧ M.1.name = "<init>" ∧ "SlowerForTheLate$Walker" = M.1.cls)) : ∀ ci ∈ ([0, 1, 2, 5, 6, 7, 8, 10] : List Nat), ∃ C T N ty, zKC ci C T N ty ∧ 1 < N ∧ (T 1).1 = "SlowerForTheLate$Walker" ∧ (T 1).2.1 = "figure" ∧ (T 1).2.2.1 = "I" ∧ (zFs ci)[1]? = some false ∧ parseFieldDescriptor "I" = some .int ∧ ((T 1).2.2.2 = false ∨ ((T 1).2.2.2 = true ∧ M.1.name = "<init>" ∧ "SlowerForTheLate$Walker" = M.1.cls)) := (zfc ⟨_, _, _, _, zkc0, by decide, rfl, rfl, rfl, rfl, by decide +kernel, h⟩ (zfc ⟨_, _, _, _, zkc1, by decide, rfl, rfl, rfl, rfl, by decide +kernel, h⟩ (zfc ⟨_, _, _, _, zkc2, by decide, rfl, rfl, rfl, rfl, by decide +kernel, h⟩ (zfc ⟨_, _, _, _, zkc5, by decide, rfl, rfl, rfl, rfl, by decide +kernel, h⟩ (zfc ⟨_, _, _, _, zkc6, by decide, rfl, rfl, rfl, rfl, by decide +kernel, h⟩ (zfc ⟨_, _, _, _, zkc7, by decide, rfl, rfl, rfl, rfl, by decide +kernel, h⟩ (zfc ⟨_, _, _, _, zkc8, by decide, rfl, rfl, rfl, rfl, by decide +kernel, h⟩ (zfc ⟨_, _, _, _, zkc10, by decide, rfl, rfl, rfl, rfl, by decide +kernel, h⟩ zfn))))))))
theorem zfp_11_now (M : zM) (h : (TX11 0).2.2.2 = false ∨ ((TX11 0).2.2.2 = true ∧ M.1.name = "<init>" ∧ "SlowerForTheLate" = M.1.cls)) : ∀ ci ∈ ([11] : List Nat), ∃ C T N ty, zKC ci C T N ty ∧ 0 < N ∧ (T 0).1 = "SlowerForTheLate" ∧ (T 0).2.1 = "now" ∧ (T 0).2.2.1 = "LSlowerForTheLate$Plan;" ∧ (zFs ci)[0]? = some true ∧ parseFieldDescriptor "LSlowerForTheLate$Plan;" = some (.object "SlowerForTheLate$Plan") ∧ ((T 0).2.2.2 = false ∨ ((T 0).2.2.2 = true ∧ M.1.name = "<init>" ∧ "SlowerForTheLate" = M.1.cls)) := (zfc ⟨_, _, _, _, zkc11, by decide, rfl, rfl, rfl, rfl, by decide +kernel, h⟩ zfn)
theorem zfp_11_trial (M : zM) (h : (TX11 1).2.2.2 = false ∨ ((TX11 1).2.2.2 = true ∧ M.1.name = "<init>" ∧ "SlowerForTheLate" = M.1.cls)) : ∀ ci ∈ ([11] : List Nat), ∃ C T N ty, zKC ci C T N ty ∧ 1 < N ∧ (T 1).1 = "SlowerForTheLate" ∧ (T 1).2.1 = "trial" ∧ (T 1).2.2.1 = "LSlowerForTheLate$Plan;" ∧ (zFs ci)[1]? = some true ∧ parseFieldDescriptor "LSlowerForTheLate$Plan;" = some (.object "SlowerForTheLate$Plan") ∧ ((T 1).2.2.2 = false ∨ ((T 1).2.2.2 = true ∧ M.1.name = "<init>" ∧ "SlowerForTheLate" = M.1.cls)) := (zfc ⟨_, _, _, _, zkc11, by decide, rfl, rfl, rfl, rfl, by decide +kernel, h⟩ zfn)
theorem zfp_11_picture (M : zM) (h : (TX11 2).2.2.2 = false ∨ ((TX11 2).2.2.2 = true ∧ M.1.name = "<init>" ∧ "SlowerForTheLate" = M.1.cls)) : ∀ ci ∈ ([11] : List Nat), ∃ C T N ty, zKC ci C T N ty ∧ 2 < N ∧ (T 2).1 = "SlowerForTheLate" ∧ (T 2).2.1 = "picture" ∧ (T 2).2.2.1 = "LSlowerForTheLate$Plan;" ∧ (zFs ci)[2]? = some true ∧ parseFieldDescriptor "LSlowerForTheLate$Plan;" = some (.object "SlowerForTheLate$Plan") ∧ ((T 2).2.2.2 = false ∨ ((T 2).2.2.2 = true ∧ M.1.name = "<init>" ∧ "SlowerForTheLate" = M.1.cls)) := (zfc ⟨_, _, _, _, zkc11, by decide, rfl, rfl, rfl, rfl, by decide +kernel, h⟩ zfn)
theorem zfp_11_pictured (M : zM) (h : (TX11 3).2.2.2 = false ∨ ((TX11 3).2.2.2 = true ∧ M.1.name = "<init>" ∧ "SlowerForTheLate" = M.1.cls)) : ∀ ci ∈ ([11] : List Nat), ∃ C T N ty, zKC ci C T N ty ∧ 3 < N ∧ (T 3).1 = "SlowerForTheLate" ∧ (T 3).2.1 = "pictured" ∧ (T 3).2.2.1 = "Z" ∧ (zFs ci)[3]? = some false ∧ parseFieldDescriptor "Z" = some .boolean ∧ ((T 3).2.2.2 = false ∨ ((T 3).2.2.2 = true ∧ M.1.name = "<init>" ∧ "SlowerForTheLate" = M.1.cls)) := (zfc ⟨_, _, _, _, zkc11, by decide, rfl, rfl, rfl, rfl, by decide +kernel, h⟩ zfn)
theorem zfp_11_trip (M : zM) (h : (TX11 4).2.2.2 = false ∨ ((TX11 4).2.2.2 = true ∧ M.1.name = "<init>" ∧ "SlowerForTheLate" = M.1.cls)) : ∀ ci ∈ ([11] : List Nat), ∃ C T N ty, zKC ci C T N ty ∧ 4 < N ∧ (T 4).1 = "SlowerForTheLate" ∧ (T 4).2.1 = "trip" ∧ (T 4).2.2.1 = "LSlowerForTheLate$Trip;" ∧ (zFs ci)[4]? = some true ∧ parseFieldDescriptor "LSlowerForTheLate$Trip;" = some (.object "SlowerForTheLate$Trip") ∧ ((T 4).2.2.2 = false ∨ ((T 4).2.2.2 = true ∧ M.1.name = "<init>" ∧ "SlowerForTheLate" = M.1.cls)) := (zfc ⟨_, _, _, _, zkc11, by decide, rfl, rfl, rfl, rfl, by decide +kernel, h⟩ zfn)
theorem zfp_11_keptOnes (M : zM) (h : (TX11 5).2.2.2 = false ∨ ((TX11 5).2.2.2 = true ∧ M.1.name = "<init>" ∧ "SlowerForTheLate" = M.1.cls)) : ∀ ci ∈ ([11] : List Nat), ∃ C T N ty, zKC ci C T N ty ∧ 5 < N ∧ (T 5).1 = "SlowerForTheLate" ∧ (T 5).2.1 = "keptOnes" ∧ (T 5).2.2.1 = "[LSlowerForTheLate$Walker;" ∧ (zFs ci)[5]? = some true ∧ parseFieldDescriptor "[LSlowerForTheLate$Walker;" = some (.array (.object "SlowerForTheLate$Walker")) ∧ ((T 5).2.2.2 = false ∨ ((T 5).2.2.2 = true ∧ M.1.name = "<init>" ∧ "SlowerForTheLate" = M.1.cls)) := (zfc ⟨_, _, _, _, zkc11, by decide, rfl, rfl, rfl, rfl, by decide +kernel, h⟩ zfn)
theorem zfp_11_keptRows (M : zM) (h : (TX11 6).2.2.2 = false ∨ ((TX11 6).2.2.2 = true ∧ M.1.name = "<init>" ∧ "SlowerForTheLate" = M.1.cls)) : ∀ ci ∈ ([11] : List Nat), ∃ C T N ty, zKC ci C T N ty ∧ 6 < N ∧ (T 6).1 = "SlowerForTheLate" ∧ (T 6).2.1 = "keptRows" ∧ (T 6).2.2.1 = "[LSlowerForTheLate$Row;" ∧ (zFs ci)[6]? = some true ∧ parseFieldDescriptor "[LSlowerForTheLate$Row;" = some (.array (.object "SlowerForTheLate$Row")) ∧ ((T 6).2.2.2 = false ∨ ((T 6).2.2.2 = true ∧ M.1.name = "<init>" ∧ "SlowerForTheLate" = M.1.cls)) := (zfc ⟨_, _, _, _, zkc11, by decide, rfl, rfl, rfl, rfl, by decide +kernel, h⟩ zfn)
theorem zfp_11_oneArrives (M : zM) (h : (TX11 7).2.2.2 = false ∨ ((TX11 7).2.2.2 = true ∧ M.1.name = "<init>" ∧ "SlowerForTheLate" = M.1.cls)) : ∀ ci ∈ ([11] : List Nat), ∃ C T N ty, zKC ci C T N ty ∧ 7 < N ∧ (T 7).1 = "SlowerForTheLate" ∧ (T 7).2.1 = "oneArrives" ∧ (T 7).2.2.1 = "[I" ∧ (zFs ci)[7]? = some true ∧ parseFieldDescriptor "[I" = some (.array .int) ∧ ((T 7).2.2.2 = false ∨ ((T 7).2.2.2 = true ∧ M.1.name = "<init>" ∧ "SlowerForTheLate" = M.1.cls)) := (zfc ⟨_, _, _, _, zkc11, by decide, rfl, rfl, rfl, rfl, by decide +kernel, h⟩ zfn)
theorem zfp_11_otherArrives (M : zM) (h : (TX11 8).2.2.2 = false ∨ ((TX11 8).2.2.2 = true ∧ M.1.name = "<init>" ∧ "SlowerForTheLate" = M.1.cls)) : ∀ ci ∈ ([11] : List Nat), ∃ C T N ty, zKC ci C T N ty ∧ 8 < N ∧ (T 8).1 = "SlowerForTheLate" ∧ (T 8).2.1 = "otherArrives" ∧ (T 8).2.2.1 = "[I" ∧ (zFs ci)[8]? = some true ∧ parseFieldDescriptor "[I" = some (.array .int) ∧ ((T 8).2.2.2 = false ∨ ((T 8).2.2.2 = true ∧ M.1.name = "<init>" ∧ "SlowerForTheLate" = M.1.cls)) := (zfc ⟨_, _, _, _, zkc11, by decide, rfl, rfl, rfl, rfl, by decide +kernel, h⟩ zfn)
theorem zfg_11_keptRows : ∀ ci ∈ ([11] : List Nat), ∃ C T N ty, zKC ci C T N ty ∧ 6 < N ∧ (T 6).1 = "SlowerForTheLate" ∧ (T 6).2.1 = "keptRows" ∧ (T 6).2.2.1 = "[LSlowerForTheLate$Row;" ∧ (zFs ci)[6]? = some true := (zfc ⟨_, _, _, _, zkc11, by decide, rfl, rfl, rfl, rfl⟩ zfn)
theorem zfg_11_trial : ∀ ci ∈ ([11] : List Nat), ∃ C T N ty, zKC ci C T N ty ∧ 1 < N ∧ (T 1).1 = "SlowerForTheLate" ∧ (T 1).2.1 = "trial" ∧ (T 1).2.2.1 = "LSlowerForTheLate$Plan;" ∧ (zFs ci)[1]? = some true := (zfc ⟨_, _, _, _, zkc11, by decide, rfl, rfl, rfl, rfl⟩ zfn)
theorem zfg_11_now : ∀ ci ∈ ([11] : List Nat), ∃ C T N ty, zKC ci C T N ty ∧ 0 < N ∧ (T 0).1 = "SlowerForTheLate" ∧ (T 0).2.1 = "now" ∧ (T 0).2.2.1 = "LSlowerForTheLate$Plan;" ∧ (zFs ci)[0]? = some true := (zfc ⟨_, _, _, _, zkc11, by decide, rfl, rfl, rfl, rfl⟩ zfn)
theorem zfg_0_kind : ∀ ci ∈ ([0, 1, 2, 5, 6, 7, 8, 10] : List Nat), ∃ C T N ty, zKC ci C T N ty ∧ 0 < N ∧ (T 0).1 = "SlowerForTheLate$Walker" ∧ (T 0).2.1 = "kind" ∧ (T 0).2.2.1 = "I" ∧ (zFs ci)[0]? = some false := (zfc ⟨_, _, _, _, zkc0, by decide, rfl, rfl, rfl, rfl⟩ (zfc ⟨_, _, _, _, zkc1, by decide, rfl, rfl, rfl, rfl⟩ (zfc ⟨_, _, _, _, zkc2, by decide, rfl, rfl, rfl, rfl⟩ (zfc ⟨_, _, _, _, zkc5, by decide, rfl, rfl, rfl, rfl⟩ (zfc ⟨_, _, _, _, zkc6, by decide, rfl, rfl, rfl, rfl⟩ (zfc ⟨_, _, _, _, zkc7, by decide, rfl, rfl, rfl, rfl⟩ (zfc ⟨_, _, _, _, zkc8, by decide, rfl, rfl, rfl, rfl⟩ (zfc ⟨_, _, _, _, zkc10, by decide, rfl, rfl, rfl, rfl⟩ zfn))))))))
theorem zfg_11_keptOnes : ∀ ci ∈ ([11] : List Nat), ∃ C T N ty, zKC ci C T N ty ∧ 5 < N ∧ (T 5).1 = "SlowerForTheLate" ∧ (T 5).2.1 = "keptOnes" ∧ (T 5).2.2.1 = "[LSlowerForTheLate$Walker;" ∧ (zFs ci)[5]? = some true := (zfc ⟨_, _, _, _, zkc11, by decide, rfl, rfl, rfl, rfl⟩ zfn)
theorem zfg_11_trip : ∀ ci ∈ ([11] : List Nat), ∃ C T N ty, zKC ci C T N ty ∧ 4 < N ∧ (T 4).1 = "SlowerForTheLate" ∧ (T 4).2.1 = "trip" ∧ (T 4).2.2.1 = "LSlowerForTheLate$Trip;" ∧ (zFs ci)[4]? = some true := (zfc ⟨_, _, _, _, zkc11, by decide, rfl, rfl, rfl, rfl⟩ zfn)
theorem zfg_11_oneArrives : ∀ ci ∈ ([11] : List Nat), ∃ C T N ty, zKC ci C T N ty ∧ 7 < N ∧ (T 7).1 = "SlowerForTheLate" ∧ (T 7).2.1 = "oneArrives" ∧ (T 7).2.2.1 = "[I" ∧ (zFs ci)[7]? = some true := (zfc ⟨_, _, _, _, zkc11, by decide, rfl, rfl, rfl, rfl⟩ zfn)
theorem zfg_11_otherArrives : ∀ ci ∈ ([11] : List Nat), ∃ C T N ty, zKC ci C T N ty ∧ 8 < N ∧ (T 8).1 = "SlowerForTheLate" ∧ (T 8).2.1 = "otherArrives" ∧ (T 8).2.2.1 = "[I" ∧ (zFs ci)[8]? = some true := (zfc ⟨_, _, _, _, zkc11, by decide, rfl, rfl, rfl, rfl⟩ zfn)
theorem zfg_11_picture : ∀ ci ∈ ([11] : List Nat), ∃ C T N ty, zKC ci C T N ty ∧ 2 < N ∧ (T 2).1 = "SlowerForTheLate" ∧ (T 2).2.1 = "picture" ∧ (T 2).2.2.1 = "LSlowerForTheLate$Plan;" ∧ (zFs ci)[2]? = some true := (zfc ⟨_, _, _, _, zkc11, by decide, rfl, rfl, rfl, rfl⟩ zfn)
theorem zfg_11_pictured : ∀ ci ∈ ([11] : List Nat), ∃ C T N ty, zKC ci C T N ty ∧ 3 < N ∧ (T 3).1 = "SlowerForTheLate" ∧ (T 3).2.1 = "pictured" ∧ (T 3).2.2.1 = "Z" ∧ (zFs ci)[3]? = some false := (zfc ⟨_, _, _, _, zkc11, by decide, rfl, rfl, rfl, rfl⟩ zfn)
theorem zfp_12_s (M : zM) (h : (TX12 0).2.2.2 = false ∨ ((TX12 0).2.2.2 = true ∧ M.1.name = "<init>" ∧ "SlowerForTheLateModel" = M.1.cls)) : ∀ ci ∈ ([12] : List Nat), ∃ C T N ty, zKC ci C T N ty ∧ 0 < N ∧ (T 0).1 = "SlowerForTheLateModel" ∧ (T 0).2.1 = "s" ∧ (T 0).2.2.1 = "[I" ∧ (zFs ci)[0]? = some true ∧ parseFieldDescriptor "[I" = some (.array .int) ∧ ((T 0).2.2.2 = false ∨ ((T 0).2.2.2 = true ∧ M.1.name = "<init>" ∧ "SlowerForTheLateModel" = M.1.cls)) := (zfc ⟨_, _, _, _, zkc12, by decide, rfl, rfl, rfl, rfl, by decide +kernel, h⟩ zfn)
theorem zfp_12_image (M : zM) (h : (TX12 1).2.2.2 = false ∨ ((TX12 1).2.2.2 = true ∧ M.1.name = "<init>" ∧ "SlowerForTheLateModel" = M.1.cls)) : ∀ ci ∈ ([12] : List Nat), ∃ C T N ty, zKC ci C T N ty ∧ 1 < N ∧ (T 1).1 = "SlowerForTheLateModel" ∧ (T 1).2.1 = "image" ∧ (T 1).2.2.1 = "[I" ∧ (zFs ci)[1]? = some true ∧ parseFieldDescriptor "[I" = some (.array .int) ∧ ((T 1).2.2.2 = false ∨ ((T 1).2.2.2 = true ∧ M.1.name = "<init>" ∧ "SlowerForTheLateModel" = M.1.cls)) := (zfc ⟨_, _, _, _, zkc12, by decide, rfl, rfl, rfl, rfl, by decide +kernel, h⟩ zfn)
theorem zfp_12_was (M : zM) (h : (TX12 2).2.2.2 = false ∨ ((TX12 2).2.2.2 = true ∧ M.1.name = "<init>" ∧ "SlowerForTheLateModel" = M.1.cls)) : ∀ ci ∈ ([12] : List Nat), ∃ C T N ty, zKC ci C T N ty ∧ 2 < N ∧ (T 2).1 = "SlowerForTheLateModel" ∧ (T 2).2.1 = "was" ∧ (T 2).2.2.1 = "[I" ∧ (zFs ci)[2]? = some true ∧ parseFieldDescriptor "[I" = some (.array .int) ∧ ((T 2).2.2.2 = false ∨ ((T 2).2.2.2 = true ∧ M.1.name = "<init>" ∧ "SlowerForTheLateModel" = M.1.cls)) := (zfc ⟨_, _, _, _, zkc12, by decide, rfl, rfl, rfl, rfl, by decide +kernel, h⟩ zfn)
theorem zfp_12_stopOf (M : zM) (h : (TX12 4).2.2.2 = false ∨ ((TX12 4).2.2.2 = true ∧ M.1.name = "<init>" ∧ "SlowerForTheLateModel" = M.1.cls)) : ∀ ci ∈ ([12] : List Nat), ∃ C T N ty, zKC ci C T N ty ∧ 4 < N ∧ (T 4).1 = "SlowerForTheLateModel" ∧ (T 4).2.1 = "stopOf" ∧ (T 4).2.2.1 = "[I" ∧ (zFs ci)[4]? = some true ∧ parseFieldDescriptor "[I" = some (.array .int) ∧ ((T 4).2.2.2 = false ∨ ((T 4).2.2.2 = true ∧ M.1.name = "<init>" ∧ "SlowerForTheLateModel" = M.1.cls)) := (zfc ⟨_, _, _, _, zkc12, by decide, rfl, rfl, rfl, rfl, by decide +kernel, h⟩ zfn)
theorem zfp_12_minuteOf (M : zM) (h : (TX12 5).2.2.2 = false ∨ ((TX12 5).2.2.2 = true ∧ M.1.name = "<init>" ∧ "SlowerForTheLateModel" = M.1.cls)) : ∀ ci ∈ ([12] : List Nat), ∃ C T N ty, zKC ci C T N ty ∧ 5 < N ∧ (T 5).1 = "SlowerForTheLateModel" ∧ (T 5).2.1 = "minuteOf" ∧ (T 5).2.2.1 = "[I" ∧ (zFs ci)[5]? = some true ∧ parseFieldDescriptor "[I" = some (.array .int) ∧ ((T 5).2.2.2 = false ∨ ((T 5).2.2.2 = true ∧ M.1.name = "<init>" ∧ "SlowerForTheLateModel" = M.1.cls)) := (zfc ⟨_, _, _, _, zkc12, by decide, rfl, rfl, rfl, rfl, by decide +kernel, h⟩ zfn)
theorem zfp_12_taken (M : zM) (h : (TX12 6).2.2.2 = false ∨ ((TX12 6).2.2.2 = true ∧ M.1.name = "<init>" ∧ "SlowerForTheLateModel" = M.1.cls)) : ∀ ci ∈ ([12] : List Nat), ∃ C T N ty, zKC ci C T N ty ∧ 6 < N ∧ (T 6).1 = "SlowerForTheLateModel" ∧ (T 6).2.1 = "taken" ∧ (T 6).2.2.1 = "[I" ∧ (zFs ci)[6]? = some true ∧ parseFieldDescriptor "[I" = some (.array .int) ∧ ((T 6).2.2.2 = false ∨ ((T 6).2.2.2 = true ∧ M.1.name = "<init>" ∧ "SlowerForTheLateModel" = M.1.cls)) := (zfc ⟨_, _, _, _, zkc12, by decide, rfl, rfl, rfl, rfl, by decide +kernel, h⟩ zfn)
theorem zfp_12_fullest (M : zM) (h : (TX12 7).2.2.2 = false ∨ ((TX12 7).2.2.2 = true ∧ M.1.name = "<init>" ∧ "SlowerForTheLateModel" = M.1.cls)) : ∀ ci ∈ ([12] : List Nat), ∃ C T N ty, zKC ci C T N ty ∧ 7 < N ∧ (T 7).1 = "SlowerForTheLateModel" ∧ (T 7).2.1 = "fullest" ∧ (T 7).2.2.1 = "[I" ∧ (zFs ci)[7]? = some true ∧ parseFieldDescriptor "[I" = some (.array .int) ∧ ((T 7).2.2.2 = false ∨ ((T 7).2.2.2 = true ∧ M.1.name = "<init>" ∧ "SlowerForTheLateModel" = M.1.cls)) := (zfc ⟨_, _, _, _, zkc12, by decide, rfl, rfl, rfl, rfl, by decide +kernel, h⟩ zfn)
theorem zfp_12_whenAt (M : zM) (h : (TX12 8).2.2.2 = false ∨ ((TX12 8).2.2.2 = true ∧ M.1.name = "<init>" ∧ "SlowerForTheLateModel" = M.1.cls)) : ∀ ci ∈ ([12] : List Nat), ∃ C T N ty, zKC ci C T N ty ∧ 8 < N ∧ (T 8).1 = "SlowerForTheLateModel" ∧ (T 8).2.1 = "whenAt" ∧ (T 8).2.2.1 = "[I" ∧ (zFs ci)[8]? = some true ∧ parseFieldDescriptor "[I" = some (.array .int) ∧ ((T 8).2.2.2 = false ∨ ((T 8).2.2.2 = true ∧ M.1.name = "<init>" ∧ "SlowerForTheLateModel" = M.1.cls)) := (zfc ⟨_, _, _, _, zkc12, by decide, rfl, rfl, rfl, rfl, by decide +kernel, h⟩ zfn)
theorem zfp_12_aboardAt (M : zM) (h : (TX12 9).2.2.2 = false ∨ ((TX12 9).2.2.2 = true ∧ M.1.name = "<init>" ∧ "SlowerForTheLateModel" = M.1.cls)) : ∀ ci ∈ ([12] : List Nat), ∃ C T N ty, zKC ci C T N ty ∧ 9 < N ∧ (T 9).1 = "SlowerForTheLateModel" ∧ (T 9).2.1 = "aboardAt" ∧ (T 9).2.2.1 = "[I" ∧ (zFs ci)[9]? = some true ∧ parseFieldDescriptor "[I" = some (.array .int) ∧ ((T 9).2.2.2 = false ∨ ((T 9).2.2.2 = true ∧ M.1.name = "<init>" ∧ "SlowerForTheLateModel" = M.1.cls)) := (zfc ⟨_, _, _, _, zkc12, by decide, rfl, rfl, rfl, rfl, by decide +kernel, h⟩ zfn)
theorem zfp_12_on (M : zM) (h : (TX12 10).2.2.2 = false ∨ ((TX12 10).2.2.2 = true ∧ M.1.name = "<init>" ∧ "SlowerForTheLateModel" = M.1.cls)) : ∀ ci ∈ ([12] : List Nat), ∃ C T N ty, zKC ci C T N ty ∧ 10 < N ∧ (T 10).1 = "SlowerForTheLateModel" ∧ (T 10).2.1 = "on" ∧ (T 10).2.2.1 = "[I" ∧ (zFs ci)[10]? = some true ∧ parseFieldDescriptor "[I" = some (.array .int) ∧ ((T 10).2.2.2 = false ∨ ((T 10).2.2.2 = true ∧ M.1.name = "<init>" ∧ "SlowerForTheLateModel" = M.1.cls)) := (zfc ⟨_, _, _, _, zkc12, by decide, rfl, rfl, rfl, rfl, by decide +kernel, h⟩ zfn)
theorem zfp_12_onAt (M : zM) (h : (TX12 11).2.2.2 = false ∨ ((TX12 11).2.2.2 = true ∧ M.1.name = "<init>" ∧ "SlowerForTheLateModel" = M.1.cls)) : ∀ ci ∈ ([12] : List Nat), ∃ C T N ty, zKC ci C T N ty ∧ 11 < N ∧ (T 11).1 = "SlowerForTheLateModel" ∧ (T 11).2.1 = "onAt" ∧ (T 11).2.2.1 = "[I" ∧ (zFs ci)[11]? = some true ∧ parseFieldDescriptor "[I" = some (.array .int) ∧ ((T 11).2.2.2 = false ∨ ((T 11).2.2.2 = true ∧ M.1.name = "<init>" ∧ "SlowerForTheLateModel" = M.1.cls)) := (zfc ⟨_, _, _, _, zkc12, by decide, rfl, rfl, rfl, rfl, by decide +kernel, h⟩ zfn)
theorem zfp_12_offAt (M : zM) (h : (TX12 12).2.2.2 = false ∨ ((TX12 12).2.2.2 = true ∧ M.1.name = "<init>" ∧ "SlowerForTheLateModel" = M.1.cls)) : ∀ ci ∈ ([12] : List Nat), ∃ C T N ty, zKC ci C T N ty ∧ 12 < N ∧ (T 12).1 = "SlowerForTheLateModel" ∧ (T 12).2.1 = "offAt" ∧ (T 12).2.2.1 = "[I" ∧ (zFs ci)[12]? = some true ∧ parseFieldDescriptor "[I" = some (.array .int) ∧ ((T 12).2.2.2 = false ∨ ((T 12).2.2.2 = true ∧ M.1.name = "<init>" ∧ "SlowerForTheLateModel" = M.1.cls)) := (zfc ⟨_, _, _, _, zkc12, by decide, rfl, rfl, rfl, rfl, by decide +kernel, h⟩ zfn)
theorem zfp_12_missedSet (M : zM) (h : (TX12 13).2.2.2 = false ∨ ((TX12 13).2.2.2 = true ∧ M.1.name = "<init>" ∧ "SlowerForTheLateModel" = M.1.cls)) : ∀ ci ∈ ([12] : List Nat), ∃ C T N ty, zKC ci C T N ty ∧ 13 < N ∧ (T 13).1 = "SlowerForTheLateModel" ∧ (T 13).2.1 = "missedSet" ∧ (T 13).2.2.1 = "[I" ∧ (zFs ci)[13]? = some true ∧ parseFieldDescriptor "[I" = some (.array .int) ∧ ((T 13).2.2.2 = false ∨ ((T 13).2.2.2 = true ∧ M.1.name = "<init>" ∧ "SlowerForTheLateModel" = M.1.cls)) := (zfc ⟨_, _, _, _, zkc12, by decide, rfl, rfl, rfl, rfl, by decide +kernel, h⟩ zfn)
theorem zfp_12_missed (M : zM) (h : (TX12 14).2.2.2 = false ∨ ((TX12 14).2.2.2 = true ∧ M.1.name = "<init>" ∧ "SlowerForTheLateModel" = M.1.cls)) : ∀ ci ∈ ([12] : List Nat), ∃ C T N ty, zKC ci C T N ty ∧ 14 < N ∧ (T 14).1 = "SlowerForTheLateModel" ∧ (T 14).2.1 = "missed" ∧ (T 14).2.2.1 = "[I" ∧ (zFs ci)[14]? = some true ∧ parseFieldDescriptor "[I" = some (.array .int) ∧ ((T 14).2.2.2 = false ∨ ((T 14).2.2.2 = true ∧ M.1.name = "<init>" ∧ "SlowerForTheLateModel" = M.1.cls)) := (zfc ⟨_, _, _, _, zkc12, by decide, rfl, rfl, rfl, rfl, by decide +kernel, h⟩ zfn)
theorem zfp_12_pushed (M : zM) (h : (TX12 15).2.2.2 = false ∨ ((TX12 15).2.2.2 = true ∧ M.1.name = "<init>" ∧ "SlowerForTheLateModel" = M.1.cls)) : ∀ ci ∈ ([12] : List Nat), ∃ C T N ty, zKC ci C T N ty ∧ 15 < N ∧ (T 15).1 = "SlowerForTheLateModel" ∧ (T 15).2.1 = "pushed" ∧ (T 15).2.2.1 = "[I" ∧ (zFs ci)[15]? = some true ∧ parseFieldDescriptor "[I" = some (.array .int) ∧ ((T 15).2.2.2 = false ∨ ((T 15).2.2.2 = true ∧ M.1.name = "<init>" ∧ "SlowerForTheLateModel" = M.1.cls)) := (zfc ⟨_, _, _, _, zkc12, by decide, rfl, rfl, rfl, rfl, by decide +kernel, h⟩ zfn)
theorem zfp_12_asked (M : zM) (h : (TX12 16).2.2.2 = false ∨ ((TX12 16).2.2.2 = true ∧ M.1.name = "<init>" ∧ "SlowerForTheLateModel" = M.1.cls)) : ∀ ci ∈ ([12] : List Nat), ∃ C T N ty, zKC ci C T N ty ∧ 16 < N ∧ (T 16).1 = "SlowerForTheLateModel" ∧ (T 16).2.1 = "asked" ∧ (T 16).2.2.1 = "[I" ∧ (zFs ci)[16]? = some true ∧ parseFieldDescriptor "[I" = some (.array .int) ∧ ((T 16).2.2.2 = false ∨ ((T 16).2.2.2 = true ∧ M.1.name = "<init>" ∧ "SlowerForTheLateModel" = M.1.cls)) := (zfc ⟨_, _, _, _, zkc12, by decide, rfl, rfl, rfl, rfl, by decide +kernel, h⟩ zfn)
theorem zfp_12_away (M : zM) (h : (TX12 17).2.2.2 = false ∨ ((TX12 17).2.2.2 = true ∧ M.1.name = "<init>" ∧ "SlowerForTheLateModel" = M.1.cls)) : ∀ ci ∈ ([12] : List Nat), ∃ C T N ty, zKC ci C T N ty ∧ 17 < N ∧ (T 17).1 = "SlowerForTheLateModel" ∧ (T 17).2.1 = "away" ∧ (T 17).2.2.1 = "I" ∧ (zFs ci)[17]? = some false ∧ parseFieldDescriptor "I" = some .int ∧ ((T 17).2.2.2 = false ∨ ((T 17).2.2.2 = true ∧ M.1.name = "<init>" ∧ "SlowerForTheLateModel" = M.1.cls)) := (zfc ⟨_, _, _, _, zkc12, by decide, rfl, rfl, rfl, rfl, by decide +kernel, h⟩ zfn)
theorem zfp_12_depths (M : zM) (h : (TX12 18).2.2.2 = false ∨ ((TX12 18).2.2.2 = true ∧ M.1.name = "<init>" ∧ "SlowerForTheLateModel" = M.1.cls)) : ∀ ci ∈ ([12] : List Nat), ∃ C T N ty, zKC ci C T N ty ∧ 18 < N ∧ (T 18).1 = "SlowerForTheLateModel" ∧ (T 18).2.1 = "depths" ∧ (T 18).2.2.1 = "I" ∧ (zFs ci)[18]? = some false ∧ parseFieldDescriptor "I" = some .int ∧ ((T 18).2.2.2 = false ∨ ((T 18).2.2.2 = true ∧ M.1.name = "<init>" ∧ "SlowerForTheLateModel" = M.1.cls)) := (zfc ⟨_, _, _, _, zkc12, by decide, rfl, rfl, rfl, rfl, by decide +kernel, h⟩ zfn)
theorem zfp_12_numbers (M : zM) (h : (TX12 23).2.2.2 = false ∨ ((TX12 23).2.2.2 = true ∧ M.1.name = "<init>" ∧ "SlowerForTheLateModel" = M.1.cls)) : ∀ ci ∈ ([12] : List Nat), ∃ C T N ty, zKC ci C T N ty ∧ 23 < N ∧ (T 23).1 = "SlowerForTheLateModel" ∧ (T 23).2.1 = "numbers" ∧ (T 23).2.2.1 = "[I" ∧ (zFs ci)[23]? = some true ∧ parseFieldDescriptor "[I" = some (.array .int) ∧ ((T 23).2.2.2 = false ∨ ((T 23).2.2.2 = true ∧ M.1.name = "<init>" ∧ "SlowerForTheLateModel" = M.1.cls)) := (zfc ⟨_, _, _, _, zkc12, by decide, rfl, rfl, rfl, rfl, by decide +kernel, h⟩ zfn)
theorem zfp_12_firstAt (M : zM) (h : (TX12 26).2.2.2 = false ∨ ((TX12 26).2.2.2 = true ∧ M.1.name = "<init>" ∧ "SlowerForTheLateModel" = M.1.cls)) : ∀ ci ∈ ([12] : List Nat), ∃ C T N ty, zKC ci C T N ty ∧ 26 < N ∧ (T 26).1 = "SlowerForTheLateModel" ∧ (T 26).2.1 = "firstAt" ∧ (T 26).2.2.1 = "[I" ∧ (zFs ci)[26]? = some true ∧ parseFieldDescriptor "[I" = some (.array .int) ∧ ((T 26).2.2.2 = false ∨ ((T 26).2.2.2 = true ∧ M.1.name = "<init>" ∧ "SlowerForTheLateModel" = M.1.cls)) := (zfc ⟨_, _, _, _, zkc12, by decide, rfl, rfl, rfl, rfl, by decide +kernel, h⟩ zfn)
theorem zfp_12_otherAt (M : zM) (h : (TX12 27).2.2.2 = false ∨ ((TX12 27).2.2.2 = true ∧ M.1.name = "<init>" ∧ "SlowerForTheLateModel" = M.1.cls)) : ∀ ci ∈ ([12] : List Nat), ∃ C T N ty, zKC ci C T N ty ∧ 27 < N ∧ (T 27).1 = "SlowerForTheLateModel" ∧ (T 27).2.1 = "otherAt" ∧ (T 27).2.2.1 = "[I" ∧ (zFs ci)[27]? = some true ∧ parseFieldDescriptor "[I" = some (.array .int) ∧ ((T 27).2.2.2 = false ∨ ((T 27).2.2.2 = true ∧ M.1.name = "<init>" ∧ "SlowerForTheLateModel" = M.1.cls)) := (zfc ⟨_, _, _, _, zkc12, by decide, rfl, rfl, rfl, rfl, by decide +kernel, h⟩ zfn)
theorem zfp_12_ownBase (M : zM) (h : (TX12 29).2.2.2 = false ∨ ((TX12 29).2.2.2 = true ∧ M.1.name = "<init>" ∧ "SlowerForTheLateModel" = M.1.cls)) : ∀ ci ∈ ([12] : List Nat), ∃ C T N ty, zKC ci C T N ty ∧ 29 < N ∧ (T 29).1 = "SlowerForTheLateModel" ∧ (T 29).2.1 = "ownBase" ∧ (T 29).2.2.1 = "[I" ∧ (zFs ci)[29]? = some true ∧ parseFieldDescriptor "[I" = some (.array .int) ∧ ((T 29).2.2.2 = false ∨ ((T 29).2.2.2 = true ∧ M.1.name = "<init>" ∧ "SlowerForTheLateModel" = M.1.cls)) := (zfc ⟨_, _, _, _, zkc12, by decide, rfl, rfl, rfl, rfl, by decide +kernel, h⟩ zfn)
theorem zfp_12_kept (M : zM) (h : (TX12 30).2.2.2 = false ∨ ((TX12 30).2.2.2 = true ∧ M.1.name = "<init>" ∧ "SlowerForTheLateModel" = M.1.cls)) : ∀ ci ∈ ([12] : List Nat), ∃ C T N ty, zKC ci C T N ty ∧ 30 < N ∧ (T 30).1 = "SlowerForTheLateModel" ∧ (T 30).2.1 = "kept" ∧ (T 30).2.2.1 = "[I" ∧ (zFs ci)[30]? = some true ∧ parseFieldDescriptor "[I" = some (.array .int) ∧ ((T 30).2.2.2 = false ∨ ((T 30).2.2.2 = true ∧ M.1.name = "<init>" ∧ "SlowerForTheLateModel" = M.1.cls)) := (zfc ⟨_, _, _, _, zkc12, by decide, rfl, rfl, rfl, rfl, by decide +kernel, h⟩ zfn)
theorem zfp_12_keptKind (M : zM) (h : (TX12 31).2.2.2 = false ∨ ((TX12 31).2.2.2 = true ∧ M.1.name = "<init>" ∧ "SlowerForTheLateModel" = M.1.cls)) : ∀ ci ∈ ([12] : List Nat), ∃ C T N ty, zKC ci C T N ty ∧ 31 < N ∧ (T 31).1 = "SlowerForTheLateModel" ∧ (T 31).2.1 = "keptKind" ∧ (T 31).2.2.1 = "[I" ∧ (zFs ci)[31]? = some true ∧ parseFieldDescriptor "[I" = some (.array .int) ∧ ((T 31).2.2.2 = false ∨ ((T 31).2.2.2 = true ∧ M.1.name = "<init>" ∧ "SlowerForTheLateModel" = M.1.cls)) := (zfc ⟨_, _, _, _, zkc12, by decide, rfl, rfl, rfl, rfl, by decide +kernel, h⟩ zfn)
theorem zfp_12_keptFigure (M : zM) (h : (TX12 32).2.2.2 = false ∨ ((TX12 32).2.2.2 = true ∧ M.1.name = "<init>" ∧ "SlowerForTheLateModel" = M.1.cls)) : ∀ ci ∈ ([12] : List Nat), ∃ C T N ty, zKC ci C T N ty ∧ 32 < N ∧ (T 32).1 = "SlowerForTheLateModel" ∧ (T 32).2.1 = "keptFigure" ∧ (T 32).2.2.1 = "[I" ∧ (zFs ci)[32]? = some true ∧ parseFieldDescriptor "[I" = some (.array .int) ∧ ((T 32).2.2.2 = false ∨ ((T 32).2.2.2 = true ∧ M.1.name = "<init>" ∧ "SlowerForTheLateModel" = M.1.cls)) := (zfc ⟨_, _, _, _, zkc12, by decide, rfl, rfl, rfl, rfl, by decide +kernel, h⟩ zfn)
theorem zfp_12_sort (M : zM) (h : (TX12 33).2.2.2 = false ∨ ((TX12 33).2.2.2 = true ∧ M.1.name = "<init>" ∧ "SlowerForTheLateModel" = M.1.cls)) : ∀ ci ∈ ([12] : List Nat), ∃ C T N ty, zKC ci C T N ty ∧ 33 < N ∧ (T 33).1 = "SlowerForTheLateModel" ∧ (T 33).2.1 = "sort" ∧ (T 33).2.2.1 = "[I" ∧ (zFs ci)[33]? = some true ∧ parseFieldDescriptor "[I" = some (.array .int) ∧ ((T 33).2.2.2 = false ∨ ((T 33).2.2.2 = true ∧ M.1.name = "<init>" ∧ "SlowerForTheLateModel" = M.1.cls)) := (zfc ⟨_, _, _, _, zkc12, by decide, rfl, rfl, rfl, rfl, by decide +kernel, h⟩ zfn)
theorem zfp_12_size (M : zM) (h : (TX12 34).2.2.2 = false ∨ ((TX12 34).2.2.2 = true ∧ M.1.name = "<init>" ∧ "SlowerForTheLateModel" = M.1.cls)) : ∀ ci ∈ ([12] : List Nat), ∃ C T N ty, zKC ci C T N ty ∧ 34 < N ∧ (T 34).1 = "SlowerForTheLateModel" ∧ (T 34).2.1 = "size" ∧ (T 34).2.2.1 = "[I" ∧ (zFs ci)[34]? = some true ∧ parseFieldDescriptor "[I" = some (.array .int) ∧ ((T 34).2.2.2 = false ∨ ((T 34).2.2.2 = true ∧ M.1.name = "<init>" ∧ "SlowerForTheLateModel" = M.1.cls)) := (zfc ⟨_, _, _, _, zkc12, by decide, rfl, rfl, rfl, rfl, by decide +kernel, h⟩ zfn)
theorem zfp_12_element (M : zM) (h : (TX12 35).2.2.2 = false ∨ ((TX12 35).2.2.2 = true ∧ M.1.name = "<init>" ∧ "SlowerForTheLateModel" = M.1.cls)) : ∀ ci ∈ ([12] : List Nat), ∃ C T N ty, zKC ci C T N ty ∧ 35 < N ∧ (T 35).1 = "SlowerForTheLateModel" ∧ (T 35).2.1 = "element" ∧ (T 35).2.2.1 = "[I" ∧ (zFs ci)[35]? = some true ∧ parseFieldDescriptor "[I" = some (.array .int) ∧ ((T 35).2.2.2 = false ∨ ((T 35).2.2.2 = true ∧ M.1.name = "<init>" ∧ "SlowerForTheLateModel" = M.1.cls)) := (zfc ⟨_, _, _, _, zkc12, by decide, rfl, rfl, rfl, rfl, by decide +kernel, h⟩ zfn)
theorem zfg_12_s : ∀ ci ∈ ([12] : List Nat), ∃ C T N ty, zKC ci C T N ty ∧ 0 < N ∧ (T 0).1 = "SlowerForTheLateModel" ∧ (T 0).2.1 = "s" ∧ (T 0).2.2.1 = "[I" ∧ (zFs ci)[0]? = some true := (zfc ⟨_, _, _, _, zkc12, by decide, rfl, rfl, rfl, rfl⟩ zfn)
theorem zfg_12_stopOf : ∀ ci ∈ ([12] : List Nat), ∃ C T N ty, zKC ci C T N ty ∧ 4 < N ∧ (T 4).1 = "SlowerForTheLateModel" ∧ (T 4).2.1 = "stopOf" ∧ (T 4).2.2.1 = "[I" ∧ (zFs ci)[4]? = some true := (zfc ⟨_, _, _, _, zkc12, by decide, rfl, rfl, rfl, rfl⟩ zfn)
theorem zfg_12_depths : ∀ ci ∈ ([12] : List Nat), ∃ C T N ty, zKC ci C T N ty ∧ 18 < N ∧ (T 18).1 = "SlowerForTheLateModel" ∧ (T 18).2.1 = "depths" ∧ (T 18).2.2.1 = "I" ∧ (zFs ci)[18]? = some false := (zfc ⟨_, _, _, _, zkc12, by decide, rfl, rfl, rfl, rfl⟩ zfn)
theorem zfg_12_minuteOf : ∀ ci ∈ ([12] : List Nat), ∃ C T N ty, zKC ci C T N ty ∧ 5 < N ∧ (T 5).1 = "SlowerForTheLateModel" ∧ (T 5).2.1 = "minuteOf" ∧ (T 5).2.2.1 = "[I" ∧ (zFs ci)[5]? = some true := (zfc ⟨_, _, _, _, zkc12, by decide, rfl, rfl, rfl, rfl⟩ zfn)
theorem zfg_12_taken : ∀ ci ∈ ([12] : List Nat), ∃ C T N ty, zKC ci C T N ty ∧ 6 < N ∧ (T 6).1 = "SlowerForTheLateModel" ∧ (T 6).2.1 = "taken" ∧ (T 6).2.2.1 = "[I" ∧ (zFs ci)[6]? = some true := (zfc ⟨_, _, _, _, zkc12, by decide, rfl, rfl, rfl, rfl⟩ zfn)
theorem zfg_12_fullest : ∀ ci ∈ ([12] : List Nat), ∃ C T N ty, zKC ci C T N ty ∧ 7 < N ∧ (T 7).1 = "SlowerForTheLateModel" ∧ (T 7).2.1 = "fullest" ∧ (T 7).2.2.1 = "[I" ∧ (zFs ci)[7]? = some true := (zfc ⟨_, _, _, _, zkc12, by decide, rfl, rfl, rfl, rfl⟩ zfn)
theorem zfg_12_on : ∀ ci ∈ ([12] : List Nat), ∃ C T N ty, zKC ci C T N ty ∧ 10 < N ∧ (T 10).1 = "SlowerForTheLateModel" ∧ (T 10).2.1 = "on" ∧ (T 10).2.2.1 = "[I" ∧ (zFs ci)[10]? = some true := (zfc ⟨_, _, _, _, zkc12, by decide, rfl, rfl, rfl, rfl⟩ zfn)
theorem zfg_12_onAt : ∀ ci ∈ ([12] : List Nat), ∃ C T N ty, zKC ci C T N ty ∧ 11 < N ∧ (T 11).1 = "SlowerForTheLateModel" ∧ (T 11).2.1 = "onAt" ∧ (T 11).2.2.1 = "[I" ∧ (zFs ci)[11]? = some true := (zfc ⟨_, _, _, _, zkc12, by decide, rfl, rfl, rfl, rfl⟩ zfn)
theorem zfg_12_offAt : ∀ ci ∈ ([12] : List Nat), ∃ C T N ty, zKC ci C T N ty ∧ 12 < N ∧ (T 12).1 = "SlowerForTheLateModel" ∧ (T 12).2.1 = "offAt" ∧ (T 12).2.2.1 = "[I" ∧ (zFs ci)[12]? = some true := (zfc ⟨_, _, _, _, zkc12, by decide, rfl, rfl, rfl, rfl⟩ zfn)
theorem zfg_12_missedSet : ∀ ci ∈ ([12] : List Nat), ∃ C T N ty, zKC ci C T N ty ∧ 13 < N ∧ (T 13).1 = "SlowerForTheLateModel" ∧ (T 13).2.1 = "missedSet" ∧ (T 13).2.2.1 = "[I" ∧ (zFs ci)[13]? = some true := (zfc ⟨_, _, _, _, zkc12, by decide, rfl, rfl, rfl, rfl⟩ zfn)
theorem zfg_12_missed : ∀ ci ∈ ([12] : List Nat), ∃ C T N ty, zKC ci C T N ty ∧ 14 < N ∧ (T 14).1 = "SlowerForTheLateModel" ∧ (T 14).2.1 = "missed" ∧ (T 14).2.2.1 = "[I" ∧ (zFs ci)[14]? = some true := (zfc ⟨_, _, _, _, zkc12, by decide, rfl, rfl, rfl, rfl⟩ zfn)
theorem zfg_12_pushed : ∀ ci ∈ ([12] : List Nat), ∃ C T N ty, zKC ci C T N ty ∧ 15 < N ∧ (T 15).1 = "SlowerForTheLateModel" ∧ (T 15).2.1 = "pushed" ∧ (T 15).2.2.1 = "[I" ∧ (zFs ci)[15]? = some true := (zfc ⟨_, _, _, _, zkc12, by decide, rfl, rfl, rfl, rfl⟩ zfn)
theorem zfg_12_moved : ∀ ci ∈ ([12] : List Nat), ∃ C T N ty, zKC ci C T N ty ∧ 19 < N ∧ (T 19).1 = "SlowerForTheLateModel" ∧ (T 19).2.1 = "moved" ∧ (T 19).2.2.1 = "I" ∧ (zFs ci)[19]? = some false := (zfc ⟨_, _, _, _, zkc12, by decide, rfl, rfl, rfl, rfl⟩ zfn)
theorem zfp_12_moved (M : zM) (h : (TX12 19).2.2.2 = false ∨ ((TX12 19).2.2.2 = true ∧ M.1.name = "<init>" ∧ "SlowerForTheLateModel" = M.1.cls)) : ∀ ci ∈ ([12] : List Nat), ∃ C T N ty, zKC ci C T N ty ∧ 19 < N ∧ (T 19).1 = "SlowerForTheLateModel" ∧ (T 19).2.1 = "moved" ∧ (T 19).2.2.1 = "I" ∧ (zFs ci)[19]? = some false ∧ parseFieldDescriptor "I" = some .int ∧ ((T 19).2.2.2 = false ∨ ((T 19).2.2.2 = true ∧ M.1.name = "<init>" ∧ "SlowerForTheLateModel" = M.1.cls)) := (zfc ⟨_, _, _, _, zkc12, by decide, rfl, rfl, rfl, rfl, by decide +kernel, h⟩ zfn)
theorem zfg_12_away : ∀ ci ∈ ([12] : List Nat), ∃ C T N ty, zKC ci C T N ty ∧ 17 < N ∧ (T 17).1 = "SlowerForTheLateModel" ∧ (T 17).2.1 = "away" ∧ (T 17).2.2.1 = "I" ∧ (zFs ci)[17]? = some false := (zfc ⟨_, _, _, _, zkc12, by decide, rfl, rfl, rfl, rfl⟩ zfn)
theorem zfg_12_asked : ∀ ci ∈ ([12] : List Nat), ∃ C T N ty, zKC ci C T N ty ∧ 16 < N ∧ (T 16).1 = "SlowerForTheLateModel" ∧ (T 16).2.1 = "asked" ∧ (T 16).2.2.1 = "[I" ∧ (zFs ci)[16]? = some true := (zfc ⟨_, _, _, _, zkc12, by decide, rfl, rfl, rfl, rfl⟩ zfn)
theorem zfg_12_whenAt : ∀ ci ∈ ([12] : List Nat), ∃ C T N ty, zKC ci C T N ty ∧ 8 < N ∧ (T 8).1 = "SlowerForTheLateModel" ∧ (T 8).2.1 = "whenAt" ∧ (T 8).2.2.1 = "[I" ∧ (zFs ci)[8]? = some true := (zfc ⟨_, _, _, _, zkc12, by decide, rfl, rfl, rfl, rfl⟩ zfn)
theorem zfg_12_aboardAt : ∀ ci ∈ ([12] : List Nat), ∃ C T N ty, zKC ci C T N ty ∧ 9 < N ∧ (T 9).1 = "SlowerForTheLateModel" ∧ (T 9).2.1 = "aboardAt" ∧ (T 9).2.2.1 = "[I" ∧ (zFs ci)[9]? = some true := (zfc ⟨_, _, _, _, zkc12, by decide, rfl, rfl, rfl, rfl⟩ zfn)
theorem zfg_12_at : ∀ ci ∈ ([12] : List Nat), ∃ C T N ty, zKC ci C T N ty ∧ 20 < N ∧ (T 20).1 = "SlowerForTheLateModel" ∧ (T 20).2.1 = "at" ∧ (T 20).2.2.1 = "I" ∧ (zFs ci)[20]? = some false := (zfc ⟨_, _, _, _, zkc12, by decide, rfl, rfl, rfl, rfl⟩ zfn)
theorem zfg_12_rowEnd : ∀ ci ∈ ([12] : List Nat), ∃ C T N ty, zKC ci C T N ty ∧ 22 < N ∧ (T 22).1 = "SlowerForTheLateModel" ∧ (T 22).2.1 = "rowEnd" ∧ (T 22).2.2.1 = "I" ∧ (zFs ci)[22]? = some false := (zfc ⟨_, _, _, _, zkc12, by decide, rfl, rfl, rfl, rfl⟩ zfn)
theorem zfg_12_element : ∀ ci ∈ ([12] : List Nat), ∃ C T N ty, zKC ci C T N ty ∧ 35 < N ∧ (T 35).1 = "SlowerForTheLateModel" ∧ (T 35).2.1 = "element" ∧ (T 35).2.2.1 = "[I" ∧ (zFs ci)[35]? = some true := (zfc ⟨_, _, _, _, zkc12, by decide, rfl, rfl, rfl, rfl⟩ zfn)
theorem zfg_12_rowAt : ∀ ci ∈ ([12] : List Nat), ∃ C T N ty, zKC ci C T N ty ∧ 21 < N ∧ (T 21).1 = "SlowerForTheLateModel" ∧ (T 21).2.1 = "rowAt" ∧ (T 21).2.2.1 = "I" ∧ (zFs ci)[21]? = some false := (zfc ⟨_, _, _, _, zkc12, by decide, rfl, rfl, rfl, rfl⟩ zfn)
theorem zfg_12_numbers : ∀ ci ∈ ([12] : List Nat), ∃ C T N ty, zKC ci C T N ty ∧ 23 < N ∧ (T 23).1 = "SlowerForTheLateModel" ∧ (T 23).2.1 = "numbers" ∧ (T 23).2.2.1 = "[I" ∧ (zFs ci)[23]? = some true := (zfc ⟨_, _, _, _, zkc12, by decide, rfl, rfl, rfl, rfl⟩ zfn)
theorem zfp_12_at (M : zM) (h : (TX12 20).2.2.2 = false ∨ ((TX12 20).2.2.2 = true ∧ M.1.name = "<init>" ∧ "SlowerForTheLateModel" = M.1.cls)) : ∀ ci ∈ ([12] : List Nat), ∃ C T N ty, zKC ci C T N ty ∧ 20 < N ∧ (T 20).1 = "SlowerForTheLateModel" ∧ (T 20).2.1 = "at" ∧ (T 20).2.2.1 = "I" ∧ (zFs ci)[20]? = some false ∧ parseFieldDescriptor "I" = some .int ∧ ((T 20).2.2.2 = false ∨ ((T 20).2.2.2 = true ∧ M.1.name = "<init>" ∧ "SlowerForTheLateModel" = M.1.cls)) := (zfc ⟨_, _, _, _, zkc12, by decide, rfl, rfl, rfl, rfl, by decide +kernel, h⟩ zfn)
theorem zfp_12_rowAt (M : zM) (h : (TX12 21).2.2.2 = false ∨ ((TX12 21).2.2.2 = true ∧ M.1.name = "<init>" ∧ "SlowerForTheLateModel" = M.1.cls)) : ∀ ci ∈ ([12] : List Nat), ∃ C T N ty, zKC ci C T N ty ∧ 21 < N ∧ (T 21).1 = "SlowerForTheLateModel" ∧ (T 21).2.1 = "rowAt" ∧ (T 21).2.2.1 = "I" ∧ (zFs ci)[21]? = some false ∧ parseFieldDescriptor "I" = some .int ∧ ((T 21).2.2.2 = false ∨ ((T 21).2.2.2 = true ∧ M.1.name = "<init>" ∧ "SlowerForTheLateModel" = M.1.cls)) := (zfc ⟨_, _, _, _, zkc12, by decide, rfl, rfl, rfl, rfl, by decide +kernel, h⟩ zfn)
theorem zfg_12_size : ∀ ci ∈ ([12] : List Nat), ∃ C T N ty, zKC ci C T N ty ∧ 34 < N ∧ (T 34).1 = "SlowerForTheLateModel" ∧ (T 34).2.1 = "size" ∧ (T 34).2.2.1 = "[I" ∧ (zFs ci)[34]? = some true := (zfc ⟨_, _, _, _, zkc12, by decide, rfl, rfl, rfl, rfl⟩ zfn)
theorem zfp_12_rowEnd (M : zM) (h : (TX12 22).2.2.2 = false ∨ ((TX12 22).2.2.2 = true ∧ M.1.name = "<init>" ∧ "SlowerForTheLateModel" = M.1.cls)) : ∀ ci ∈ ([12] : List Nat), ∃ C T N ty, zKC ci C T N ty ∧ 22 < N ∧ (T 22).1 = "SlowerForTheLateModel" ∧ (T 22).2.1 = "rowEnd" ∧ (T 22).2.2.1 = "I" ∧ (zFs ci)[22]? = some false ∧ parseFieldDescriptor "I" = some .int ∧ ((T 22).2.2.2 = false ∨ ((T 22).2.2.2 = true ∧ M.1.name = "<init>" ∧ "SlowerForTheLateModel" = M.1.cls)) := (zfc ⟨_, _, _, _, zkc12, by decide, rfl, rfl, rfl, rfl, by decide +kernel, h⟩ zfn)
theorem zfg_12_was : ∀ ci ∈ ([12] : List Nat), ∃ C T N ty, zKC ci C T N ty ∧ 2 < N ∧ (T 2).1 = "SlowerForTheLateModel" ∧ (T 2).2.1 = "was" ∧ (T 2).2.2.1 = "[I" ∧ (zFs ci)[2]? = some true := (zfc ⟨_, _, _, _, zkc12, by decide, rfl, rfl, rfl, rfl⟩ zfn)
theorem zfg_12_keptKind : ∀ ci ∈ ([12] : List Nat), ∃ C T N ty, zKC ci C T N ty ∧ 31 < N ∧ (T 31).1 = "SlowerForTheLateModel" ∧ (T 31).2.1 = "keptKind" ∧ (T 31).2.2.1 = "[I" ∧ (zFs ci)[31]? = some true := (zfc ⟨_, _, _, _, zkc12, by decide, rfl, rfl, rfl, rfl⟩ zfn)
theorem zfg_12_keptFigure : ∀ ci ∈ ([12] : List Nat), ∃ C T N ty, zKC ci C T N ty ∧ 32 < N ∧ (T 32).1 = "SlowerForTheLateModel" ∧ (T 32).2.1 = "keptFigure" ∧ (T 32).2.2.1 = "[I" ∧ (zFs ci)[32]? = some true := (zfc ⟨_, _, _, _, zkc12, by decide, rfl, rfl, rfl, rfl⟩ zfn)
theorem zfp_12_ofTen (M : zM) (h : (TX12 24).2.2.2 = false ∨ ((TX12 24).2.2.2 = true ∧ M.1.name = "<init>" ∧ "SlowerForTheLateModel" = M.1.cls)) : ∀ ci ∈ ([12] : List Nat), ∃ C T N ty, zKC ci C T N ty ∧ 24 < N ∧ (T 24).1 = "SlowerForTheLateModel" ∧ (T 24).2.1 = "ofTen" ∧ (T 24).2.2.1 = "I" ∧ (zFs ci)[24]? = some false ∧ parseFieldDescriptor "I" = some .int ∧ ((T 24).2.2.2 = false ∨ ((T 24).2.2.2 = true ∧ M.1.name = "<init>" ∧ "SlowerForTheLateModel" = M.1.cls)) := (zfc ⟨_, _, _, _, zkc12, by decide, rfl, rfl, rfl, rfl, by decide +kernel, h⟩ zfn)
theorem zfp_12_minutesOfTen (M : zM) (h : (TX12 25).2.2.2 = false ∨ ((TX12 25).2.2.2 = true ∧ M.1.name = "<init>" ∧ "SlowerForTheLateModel" = M.1.cls)) : ∀ ci ∈ ([12] : List Nat), ∃ C T N ty, zKC ci C T N ty ∧ 25 < N ∧ (T 25).1 = "SlowerForTheLateModel" ∧ (T 25).2.1 = "minutesOfTen" ∧ (T 25).2.2.1 = "I" ∧ (zFs ci)[25]? = some false ∧ parseFieldDescriptor "I" = some .int ∧ ((T 25).2.2.2 = false ∨ ((T 25).2.2.2 = true ∧ M.1.name = "<init>" ∧ "SlowerForTheLateModel" = M.1.cls)) := (zfc ⟨_, _, _, _, zkc12, by decide, rfl, rfl, rfl, rfl, by decide +kernel, h⟩ zfn)
theorem zfg_12_ofTen : ∀ ci ∈ ([12] : List Nat), ∃ C T N ty, zKC ci C T N ty ∧ 24 < N ∧ (T 24).1 = "SlowerForTheLateModel" ∧ (T 24).2.1 = "ofTen" ∧ (T 24).2.2.1 = "I" ∧ (zFs ci)[24]? = some false := (zfc ⟨_, _, _, _, zkc12, by decide, rfl, rfl, rfl, rfl⟩ zfn)
theorem zfg_12_minutesOfTen : ∀ ci ∈ ([12] : List Nat), ∃ C T N ty, zKC ci C T N ty ∧ 25 < N ∧ (T 25).1 = "SlowerForTheLateModel" ∧ (T 25).2.1 = "minutesOfTen" ∧ (T 25).2.2.1 = "I" ∧ (zFs ci)[25]? = some false := (zfc ⟨_, _, _, _, zkc12, by decide, rfl, rfl, rfl, rfl⟩ zfn)
theorem zfg_12_firstAt : ∀ ci ∈ ([12] : List Nat), ∃ C T N ty, zKC ci C T N ty ∧ 26 < N ∧ (T 26).1 = "SlowerForTheLateModel" ∧ (T 26).2.1 = "firstAt" ∧ (T 26).2.2.1 = "[I" ∧ (zFs ci)[26]? = some true := (zfc ⟨_, _, _, _, zkc12, by decide, rfl, rfl, rfl, rfl⟩ zfn)
theorem zfg_12_otherAt : ∀ ci ∈ ([12] : List Nat), ∃ C T N ty, zKC ci C T N ty ∧ 27 < N ∧ (T 27).1 = "SlowerForTheLateModel" ∧ (T 27).2.1 = "otherAt" ∧ (T 27).2.2.1 = "[I" ∧ (zFs ci)[27]? = some true := (zfc ⟨_, _, _, _, zkc12, by decide, rfl, rfl, rfl, rfl⟩ zfn)
theorem zfg_12_sort : ∀ ci ∈ ([12] : List Nat), ∃ C T N ty, zKC ci C T N ty ∧ 33 < N ∧ (T 33).1 = "SlowerForTheLateModel" ∧ (T 33).2.1 = "sort" ∧ (T 33).2.2.1 = "[I" ∧ (zFs ci)[33]? = some true := (zfc ⟨_, _, _, _, zkc12, by decide, rfl, rfl, rfl, rfl⟩ zfn)
theorem zfg_12_seed : ∀ ci ∈ ([12] : List Nat), ∃ C T N ty, zKC ci C T N ty ∧ 28 < N ∧ (T 28).1 = "SlowerForTheLateModel" ∧ (T 28).2.1 = "seed" ∧ (T 28).2.2.1 = "I" ∧ (zFs ci)[28]? = some false := (zfc ⟨_, _, _, _, zkc12, by decide, rfl, rfl, rfl, rfl⟩ zfn)
theorem zfp_12_seed (M : zM) (h : (TX12 28).2.2.2 = false ∨ ((TX12 28).2.2.2 = true ∧ M.1.name = "<init>" ∧ "SlowerForTheLateModel" = M.1.cls)) : ∀ ci ∈ ([12] : List Nat), ∃ C T N ty, zKC ci C T N ty ∧ 28 < N ∧ (T 28).1 = "SlowerForTheLateModel" ∧ (T 28).2.1 = "seed" ∧ (T 28).2.2.1 = "I" ∧ (zFs ci)[28]? = some false ∧ parseFieldDescriptor "I" = some .int ∧ ((T 28).2.2.2 = false ∨ ((T 28).2.2.2 = true ∧ M.1.name = "<init>" ∧ "SlowerForTheLateModel" = M.1.cls)) := (zfc ⟨_, _, _, _, zkc12, by decide, rfl, rfl, rfl, rfl, by decide +kernel, h⟩ zfn)
theorem zfg_12_ownBase : ∀ ci ∈ ([12] : List Nat), ∃ C T N ty, zKC ci C T N ty ∧ 29 < N ∧ (T 29).1 = "SlowerForTheLateModel" ∧ (T 29).2.1 = "ownBase" ∧ (T 29).2.2.1 = "[I" ∧ (zFs ci)[29]? = some true := (zfc ⟨_, _, _, _, zkc12, by decide, rfl, rfl, rfl, rfl⟩ zfn)
theorem zfg_12_image : ∀ ci ∈ ([12] : List Nat), ∃ C T N ty, zKC ci C T N ty ∧ 1 < N ∧ (T 1).1 = "SlowerForTheLateModel" ∧ (T 1).2.1 = "image" ∧ (T 1).2.2.1 = "[I" ∧ (zFs ci)[1]? = some true := (zfc ⟨_, _, _, _, zkc12, by decide, rfl, rfl, rfl, rfl⟩ zfn)
theorem zfp_12_hasImage (M : zM) (h : (TX12 3).2.2.2 = false ∨ ((TX12 3).2.2.2 = true ∧ M.1.name = "<init>" ∧ "SlowerForTheLateModel" = M.1.cls)) : ∀ ci ∈ ([12] : List Nat), ∃ C T N ty, zKC ci C T N ty ∧ 3 < N ∧ (T 3).1 = "SlowerForTheLateModel" ∧ (T 3).2.1 = "hasImage" ∧ (T 3).2.2.1 = "Z" ∧ (zFs ci)[3]? = some false ∧ parseFieldDescriptor "Z" = some .boolean ∧ ((T 3).2.2.2 = false ∨ ((T 3).2.2.2 = true ∧ M.1.name = "<init>" ∧ "SlowerForTheLateModel" = M.1.cls)) := (zfc ⟨_, _, _, _, zkc12, by decide, rfl, rfl, rfl, rfl, by decide +kernel, h⟩ zfn)
theorem zfg_12_hasImage : ∀ ci ∈ ([12] : List Nat), ∃ C T N ty, zKC ci C T N ty ∧ 3 < N ∧ (T 3).1 = "SlowerForTheLateModel" ∧ (T 3).2.1 = "hasImage" ∧ (T 3).2.2.1 = "Z" ∧ (zFs ci)[3]? = some false := (zfc ⟨_, _, _, _, zkc12, by decide, rfl, rfl, rfl, rfl⟩ zfn)
theorem zfg_12_thrown : ∀ ci ∈ ([12] : List Nat), ∃ C T N ty, zKC ci C T N ty ∧ 36 < N ∧ (T 36).1 = "SlowerForTheLateModel" ∧ (T 36).2.1 = "thrown" ∧ (T 36).2.2.1 = "I" ∧ (zFs ci)[36]? = some false := (zfc ⟨_, _, _, _, zkc12, by decide, rfl, rfl, rfl, rfl⟩ zfn)
theorem zfg_12_kept : ∀ ci ∈ ([12] : List Nat), ∃ C T N ty, zKC ci C T N ty ∧ 30 < N ∧ (T 30).1 = "SlowerForTheLateModel" ∧ (T 30).2.1 = "kept" ∧ (T 30).2.2.1 = "[I" ∧ (zFs ci)[30]? = some true := (zfc ⟨_, _, _, _, zkc12, by decide, rfl, rfl, rfl, rfl⟩ zfn)
theorem zfp_12_thrown (M : zM) (h : (TX12 36).2.2.2 = false ∨ ((TX12 36).2.2.2 = true ∧ M.1.name = "<init>" ∧ "SlowerForTheLateModel" = M.1.cls)) : ∀ ci ∈ ([12] : List Nat), ∃ C T N ty, zKC ci C T N ty ∧ 36 < N ∧ (T 36).1 = "SlowerForTheLateModel" ∧ (T 36).2.1 = "thrown" ∧ (T 36).2.2.1 = "I" ∧ (zFs ci)[36]? = some false ∧ parseFieldDescriptor "I" = some .int ∧ ((T 36).2.2.2 = false ∨ ((T 36).2.2.2 = true ∧ M.1.name = "<init>" ∧ "SlowerForTheLateModel" = M.1.cls)) := (zfc ⟨_, _, _, _, zkc12, by decide, rfl, rfl, rfl, rfl, by decide +kernel, h⟩ zfn)
def M_X0_init : zM := (yX0_init, cX0_init, 3, none)
def M_X0_excuse : zM := (yX0_excuse, cX0_excuse, 1, some .int)
def M_X0_boards : zM := (yX0_boards, cX0_boards, 2, some .boolean)
def M_X0_price : zM := (yX0_price, cX0_price, 1, some .int)
def M_X0_fail : zM := (yX0_fail, cX0_fail, 1, none)
def M_X1_init : zM := (yX1_init, cX1_init, 3, none)
def M_X1_comesAt : zM := (yX1_comesAt, cX1_comesAt, 2, some .int)
def M_X1_excuse : zM := (yX1_excuse, cX1_excuse, 1, some .int)
def M_X1_rank : zM := (yX1_rank, cX1_rank, 1, some .int)
def M_X1_price : zM := (yX1_price, cX1_price, 1, some .int)
def M_X2_init : zM := (yX2_init, cX2_init, 3, none)
def M_X2_excuse : zM := (yX2_excuse, cX2_excuse, 1, some .int)
def M_X2_places : zM := (yX2_places, cX2_places, 1, some .int)
def M_X2_refundFor : zM := (yX2_refundFor, cX2_refundFor, 2, some .int)
def M_X2_price : zM := (yX2_price, cX2_price, 1, some .int)
def M_X3_init : zM := (yX3_init, cX3_init, 3, none)
def M_X3_isStop : zM := (yX3_isStop, cX3_isStop, 1, some .boolean)
def M_X3_isPiece : zM := (yX3_isPiece, cX3_isPiece, 1, some .boolean)
def M_X3_isRun : zM := (yX3_isRun, cX3_isRun, 1, some .boolean)
def M_X3_isStart : zM := (yX3_isStart, cX3_isStart, 1, some .boolean)
def M_X3_isSeats : zM := (yX3_isSeats, cX3_isSeats, 1, some .boolean)
def M_X3_isBase : zM := (yX3_isBase, cX3_isBase, 1, some .boolean)
def M_X3_isRule : zM := (yX3_isRule, cX3_isRule, 2, some .boolean)
def M_X3_numberOf : zM := (yX3_numberOf, cX3_numberOf, 2, some .int)
def M_X3_isPerson : zM := (yX3_isPerson, cX3_isPerson, 2, some .boolean)
def M_X3_isTrain : zM := (yX3_isTrain, cX3_isTrain, 2, some .boolean)
def M_X3_addPerson : zM := (yX3_addPerson, cX3_addPerson, 5, some .boolean)
def M_X3_dropPerson : zM := (yX3_dropPerson, cX3_dropPerson, 3, none)
def M_X3_addTrain : zM := (yX3_addTrain, cX3_addTrain, 3, some .boolean)
def M_X3_turnCancelled : zM := (yX3_turnCancelled, cX3_turnCancelled, 2, none)
def M_X3_cancelledBits : zM := (yX3_cancelledBits, cX3_cancelledBits, 3, some .int)
def M_X3_allRuns : zM := (yX3_allRuns, cX3_allRuns, 6, some .int)
def M_X3_ride : zM := (yX3_ride, cX3_ride, 3, some .int)
def M_X3_become : zM := (yX3_become, cX3_become, 3, none)
def M_X3_tell : zM := (yX3_tell, cX3_tell, 3, some .boolean)
def M_X3_tellRun : zM := (yX3_tellRun, cX3_tellRun, 3, some .boolean)
def M_X3_tellTrain : zM := (yX3_tellTrain, cX3_tellTrain, 3, some .boolean)
def M_X3_tellPerson : zM := (yX3_tellPerson, cX3_tellPerson, 8, some .boolean)
def M_X3_tellRule : zM := (yX3_tellRule, cX3_tellRule, 3, some .boolean)
def M_X3_tellCancelled : zM := (yX3_tellCancelled, cX3_tellCancelled, 2, some .boolean)
def M_X4_init : zM := (yX4_init, cX4_init, 3, none)
def M_X4_size : zM := (yX4_size, cX4_size, 1, some .int)
def M_X4_has : zM := (yX4_has, cX4_has, 2, some .boolean)
def M_X4_hasRun : zM := (yX4_hasRun, cX4_hasRun, 3, some .boolean)
def M_X4_at : zM := (yX4_at, cX4_at, 2, some .int)
def M_X4_write : zM := (yX4_write, cX4_write, 3, none)
def M_X4_narrowed : zM := (yX4_narrowed, cX4_narrowed, 2, some .int)
def M_X4_isSkipped : zM := (yX4_isSkipped, cX4_isSkipped, 2, some .boolean)
def M_X4_number : zM := (yX4_number, cX4_number, 5, some .int)
def M_X5_init : zM := (yX5_init, cX5_init, 3, none)
def M_X5_comesAt : zM := (yX5_comesAt, cX5_comesAt, 2, some .int)
def M_X5_excuse : zM := (yX5_excuse, cX5_excuse, 1, some .int)
def M_X5_rank : zM := (yX5_rank, cX5_rank, 1, some .int)
def M_X5_price : zM := (yX5_price, cX5_price, 1, some .int)
def M_X6_init : zM := (yX6_init, cX6_init, 3, none)
def M_X6_excuse : zM := (yX6_excuse, cX6_excuse, 1, some .int)
def M_X6_offAt : zM := (yX6_offAt, cX6_offAt, 2, some .int)
def M_X6_price : zM := (yX6_price, cX6_price, 1, some .int)
def M_X7_init : zM := (yX7_init, cX7_init, 3, none)
def M_X7_comesAt : zM := (yX7_comesAt, cX7_comesAt, 2, some .int)
def M_X7_excuse : zM := (yX7_excuse, cX7_excuse, 1, some .int)
def M_X7_rank : zM := (yX7_rank, cX7_rank, 1, some .int)
def M_X7_refundFor : zM := (yX7_refundFor, cX7_refundFor, 2, some .int)
def M_X7_price : zM := (yX7_price, cX7_price, 1, some .int)
def M_X7_fail : zM := (yX7_fail, cX7_fail, 1, none)
def M_X8_init : zM := (yX8_init, cX8_init, 3, none)
def M_X8_comesAt : zM := (yX8_comesAt, cX8_comesAt, 2, some .int)
def M_X8_excuse : zM := (yX8_excuse, cX8_excuse, 1, some .int)
def M_X8_refundFor : zM := (yX8_refundFor, cX8_refundFor, 2, some .int)
def M_X8_price : zM := (yX8_price, cX8_price, 1, some .int)
def M_X8_fail : zM := (yX8_fail, cX8_fail, 1, none)
def M_X9_init : zM := (yX9_init, cX9_init, 1, none)
def M_X9_place : zM := (yX9_place, cX9_place, 3, some .int)
def M_X9_arrives : zM := (yX9_arrives, cX9_arrives, 2, some .boolean)
def M_X9_arrivalOf : zM := (yX9_arrivalOf, cX9_arrivalOf, 2, some .int)
def M_X9_missedBy : zM := (yX9_missedBy, cX9_missedBy, 2, some .int)
def M_X9_arriving : zM := (yX9_arriving, cX9_arriving, 3, some .int)
def M_X9_latest : zM := (yX9_latest, cX9_latest, 3, some .int)
def M_X9_allArrivals : zM := (yX9_allArrivals, cX9_allArrivals, 3, some .int)
def M_X9_go : zM := (yX9_go, cX9_go, 5, none)
def M_X9_setPeople : zM := (yX9_setPeople, cX9_setPeople, 4, none)
def M_X9_line : zM := (yX9_line, cX9_line, 3, none)
def M_X9_setTrains : zM := (yX9_setTrains, cX9_setTrains, 6, none)
def M_X9_orderTrains : zM := (yX9_orderTrains, cX9_orderTrains, 5, none)
def M_X9_isAhead : zM := (yX9_isAhead, cX9_isAhead, 6, some .boolean)
def M_X9_atStop : zM := (yX9_atStop, cX9_atStop, 8, none)
def M_X9_letOff : zM := (yX9_letOff, cX9_letOff, 5, some .boolean)
def M_X9_letOn : zM := (yX9_letOn, cX9_letOn, 8, some .boolean)
def M_X9_isLetOn : zM := (yX9_isLetOn, cX9_isLetOn, 7, some .boolean)
def M_X9_may : zM := (yX9_may, cX9_may, 4, some .boolean)
def M_X10_init : zM := (yX10_init, cX10_init, 3, none)
def M_X10_isKind : zM := (yX10_isKind, cX10_isKind, 1, some .boolean)
def M_X10_isFigure : zM := (yX10_isFigure, cX10_isFigure, 1, some .boolean)
def M_X10_ofKind : zM := (yX10_ofKind, cX10_ofKind, 2, some (.object "SlowerForTheLate$Walker"))
def M_X10_comesAt : zM := (yX10_comesAt, cX10_comesAt, 2, some .int)
def M_X10_excuse : zM := (yX10_excuse, cX10_excuse, 1, some .int)
def M_X10_rank : zM := (yX10_rank, cX10_rank, 1, some .int)
def M_X10_places : zM := (yX10_places, cX10_places, 1, some .int)
def M_X10_offAt : zM := (yX10_offAt, cX10_offAt, 2, some .int)
def M_X10_boards : zM := (yX10_boards, cX10_boards, 2, some .boolean)
def M_X10_refundFor : zM := (yX10_refundFor, cX10_refundFor, 2, some .int)
def M_X10_price : zM := (yX10_price, cX10_price, 1, some .int)
def M_X10_fail : zM := (yX10_fail, cX10_fail, 1, none)
def M_X11_init : zM := (yX11_init, cX11_init, 1, none)
def M_X11_day : zM := (yX11_day, cX11_day, 7, some .int)
def M_X11_traveller : zM := (yX11_traveller, cX11_traveller, 4, some .int)
def M_X11_takes : zM := (yX11_takes, cX11_takes, 3, some .int)
def M_X11_refund : zM := (yX11_refund, cX11_refund, 3, some .int)
def M_X11_comes : zM := (yX11_comes, cX11_comes, 6, some .int)
def M_X11_leaves : zM := (yX11_leaves, cX11_leaves, 2, some .int)
def M_X11_base : zM := (yX11_base, cX11_base, 4, some .int)
def M_X11_train : zM := (yX11_train, cX11_train, 3, some .int)
def M_X11_about : zM := (yX11_about, cX11_about, 3, some .int)
def M_X11_cancels : zM := (yX11_cancels, cX11_cancels, 2, some .int)
def M_X11_run : zM := (yX11_run, cX11_run, 4, some .int)
def M_X11_set : zM := (yX11_set, cX11_set, 4, some .int)
def M_X11_fate : zM := (yX11_fate, cX11_fate, 3, some .int)
def M_X11_when : zM := (yX11_when, cX11_when, 4, some .int)
def M_X11_sums : zM := (yX11_sums, cX11_sums, 2, some .int)
def M_X11_aboard : zM := (yX11_aboard, cX11_aboard, 4, some .int)
def M_X11_fullest : zM := (yX11_fullest, cX11_fullest, 3, some .int)
def M_X11_later : zM := (yX11_later, cX11_later, 7, some .int)
def M_X11_slack : zM := (yX11_slack, cX11_slack, 4, some .int)
def M_X11_odds : zM := (yX11_odds, cX11_odds, 4, some .int)
def M_X11_mean : zM := (yX11_mean, cX11_mean, 7, some .long)
def M_X11_two : zM := (yX11_two, cX11_two, 5, some .int)
def M_X11_whose : zM := (yX11_whose, cX11_whose, 5, some .int)
def M_X11_together : zM := (yX11_together, cX11_together, 5, some .int)
def M_X11_cancel : zM := (yX11_cancel, cX11_cancel, 3, some .int)
def M_X11_strike : zM := (yX11_strike, cX11_strike, 1, some .int)
def M_X11_snow : zM := (yX11_snow, cX11_snow, 3, some .int)
def M_X11_law : zM := (yX11_law, cX11_law, 3, some .int)
def M_X11_bestLate : zM := (yX11_bestLate, cX11_bestLate, 5, some .int)
def M_X11_worth : zM := (yX11_worth, cX11_worth, 1, some .int)
def M_X11_bestGap : zM := (yX11_bestGap, cX11_bestGap, 5, some .int)
def M_X11_bestStart : zM := (yX11_bestStart, cX11_bestStart, 4, some .int)
def M_X11_need : zM := (yX11_need, cX11_need, 3, some .int)
def M_X11_extra : zM := (yX11_extra, cX11_extra, 1, some .int)
def M_X11_tickets : zM := (yX11_tickets, cX11_tickets, 8, some .int)
def M_X11_forged : zM := (yX11_forged, cX11_forged, 6, some .int)
def M_X11_came : zM := (yX11_came, cX11_came, 7, some .int)
def M_X11_sure : zM := (yX11_sure, cX11_sure, 7, some .int)
def M_X11_judge : zM := (yX11_judge, cX11_judge, 6, some .int)
def M_X11_mornings : zM := (yX11_mornings, cX11_mornings, 8, some .int)
def M_X11_image : zM := (yX11_image, cX11_image, 1, some .int)
def M_X11_restore : zM := (yX11_restore, cX11_restore, 1, some .int)
def M_X11_count : zM := (yX11_count, cX11_count, 2, some .int)
def M_X11_keep : zM := (yX11_keep, cX11_keep, 5, some .int)
def M_X11_row : zM := (yX11_row, cX11_row, 4, some .int)
def M_X11_put : zM := (yX11_put, cX11_put, 5, some .int)
def M_X11_element : zM := (yX11_element, cX11_element, 3, some .long)
def M_X11_copy : zM := (yX11_copy, cX11_copy, 8, some .int)
def M_X11_cost : zM := (yX11_cost, cX11_cost, 3, some .int)
def M_X11_toss : zM := (yX11_toss, cX11_toss, 3, some .int)
def M_X11_isShelf : zM := (yX11_isShelf, cX11_isShelf, 1, some .boolean)
def M_X11_isEmpty : zM := (yX11_isEmpty, cX11_isEmpty, 2, some .boolean)
def M_X11_refusalOfRow : zM := (yX11_refusalOfRow, cX11_refusalOfRow, 2, some .int)
def M_X11_refusalOfTickets : zM := (yX11_refusalOfTickets, cX11_refusalOfTickets, 3, some .int)
def M_X11_refusalOfOne : zM := (yX11_refusalOfOne, cX11_refusalOfOne, 2, some .int)
def M_X11_digitsBehind : zM := (yX11_digitsBehind, cX11_digitsBehind, 1, some .int)
def M_X11_firstBadByte : zM := (yX11_firstBadByte, cX11_firstBadByte, 4, some .int)
def M_X11_isDepth : zM := (yX11_isDepth, cX11_isDepth, 1, some .boolean)
def M_X11_rideOf : zM := (yX11_rideOf, cX11_rideOf, 3, some .int)
def M_X11_allMissed : zM := (yX11_allMissed, cX11_allMissed, 3, some .int)
def M_X11_allWaited : zM := (yX11_allWaited, cX11_allWaited, 3, some .int)
def M_X11_allRefunds : zM := (yX11_allRefunds, cX11_allRefunds, 3, some .int)
def M_X11_whereabouts : zM := (yX11_whereabouts, cX11_whereabouts, 3, some .int)
def M_X11_arrivalFrom : zM := (yX11_arrivalFrom, cX11_arrivalFrom, 3, some .int)
def M_X11_arrivingWithLate : zM := (yX11_arrivingWithLate, cX11_arrivingWithLate, 2, some .int)
def M_X11_startOfLeastWorth : zM := (yX11_startOfLeastWorth, cX11_startOfLeastWorth, 9, some .int)
def M_X11_neitherGains : zM := (yX11_neitherGains, cX11_neitherGains, 6, some .boolean)
def M_X11_firstMisfit : zM := (yX11_firstMisfit, cX11_firstMisfit, 4, some .int)
def M_X11_inLeastTerms : zM := (yX11_inLeastTerms, cX11_inLeastTerms, 4, some .int)
def M_X12_init : zM := (yX12_init, cX12_init, 2, none)
def M_X12_isIn : zM := (yX12_isIn, cX12_isIn, 3, some .boolean)
def M_X12_least : zM := (yX12_least, cX12_least, 2, some .int)
def M_X12_most : zM := (yX12_most, cX12_most, 2, some .int)
def M_X12_lays : zM := (yX12_lays, cX12_lays, 3, none)
def M_X12_has : zM := (yX12_has, cX12_has, 2, some .boolean)
def M_X12_isTraveller : zM := (yX12_isTraveller, cX12_isTraveller, 2, some .boolean)
def M_X12_isTrain : zM := (yX12_isTrain, cX12_isTrain, 2, some .boolean)
def M_X12_kind : zM := (yX12_kind, cX12_kind, 2, some .int)
def M_X12_figure : zM := (yX12_figure, cX12_figure, 2, some .int)
def M_X12_from : zM := (yX12_from, cX12_from, 2, some .int)
def M_X12_to : zM := (yX12_to, cX12_to, 2, some .int)
def M_X12_baseOf : zM := (yX12_baseOf, cX12_baseOf, 2, some .int)
def M_X12_comesAt : zM := (yX12_comesAt, cX12_comesAt, 4, some .int)
def M_X12_excuseBy : zM := (yX12_excuseBy, cX12_excuseBy, 2, some .int)
def M_X12_rankOf : zM := (yX12_rankOf, cX12_rankOf, 2, some .int)
def M_X12_placesOf : zM := (yX12_placesOf, cX12_placesOf, 2, some .int)
def M_X12_offOf : zM := (yX12_offOf, cX12_offOf, 2, some .int)
def M_X12_wouldTake : zM := (yX12_wouldTake, cX12_wouldTake, 3, some .boolean)
def M_X12_refundOf : zM := (yX12_refundOf, cX12_refundOf, 3, some .int)
def M_X12_begins : zM := (yX12_begins, cX12_begins, 4, none)
def M_X12_nextTrain : zM := (yX12_nextTrain, cX12_nextTrain, 3, some .int)
def M_X12_getsOff : zM := (yX12_getsOff, cX12_getsOff, 3, none)
def M_X12_isAskedAhead : zM := (yX12_isAskedAhead, cX12_isAskedAhead, 3, some .boolean)
def M_X12_asks : zM := (yX12_asks, cX12_asks, 5, some .int)
def M_X12_tries : zM := (yX12_tries, cX12_tries, 9, none)
def M_X12_stops : zM := (yX12_stops, cX12_stops, 5, none)
def M_X12_goes : zM := (yX12_goes, cX12_goes, 2, none)
def M_X12_arrives : zM := (yX12_arrives, cX12_arrives, 2, some .int)
def M_X12_arriveMany : zM := (yX12_arriveMany, cX12_arriveMany, 3, some .int)
def M_X12_allMinutes : zM := (yX12_allMinutes, cX12_allMinutes, 3, some .int)
def M_X12_here : zM := (yX12_here, cX12_here, 1, some .int)
def M_X12_readsNumber : zM := (yX12_readsNumber, cX12_readsNumber, 4, some .boolean)
def M_X12_readsStatement : zM := (yX12_readsStatement, cX12_readsStatement, 3, some .boolean)
def M_X12_areStops : zM := (yX12_areStops, cX12_areStops, 3, some .boolean)
def M_X12_addsTrain : zM := (yX12_addsTrain, cX12_addsTrain, 3, none)
def M_X12_isDone : zM := (yX12_isDone, cX12_isDone, 5, some .boolean)
def M_X12_day : zM := (yX12_day, cX12_day, 8, some .int)
def M_X12_traveller : zM := (yX12_traveller, cX12_traveller, 3, some .int)
def M_X12_isDepth : zM := (yX12_isDepth, cX12_isDepth, 1, some .boolean)
def M_X12_takes : zM := (yX12_takes, cX12_takes, 3, some .int)
def M_X12_refund : zM := (yX12_refund, cX12_refund, 3, some .int)
def M_X12_comes : zM := (yX12_comes, cX12_comes, 7, some .int)
def M_X12_leaves : zM := (yX12_leaves, cX12_leaves, 3, some .int)
def M_X12_base : zM := (yX12_base, cX12_base, 4, some .int)
def M_X12_train : zM := (yX12_train, cX12_train, 3, some .int)
def M_X12_about : zM := (yX12_about, cX12_about, 3, some .int)
def M_X12_cancels : zM := (yX12_cancels, cX12_cancels, 2, some .int)
def M_X12_run : zM := (yX12_run, cX12_run, 4, some .int)
def M_X12_set : zM := (yX12_set, cX12_set, 4, some .int)
def M_X12_fate : zM := (yX12_fate, cX12_fate, 4, some .int)
def M_X12_when : zM := (yX12_when, cX12_when, 4, some .int)
def M_X12_sumOf : zM := (yX12_sumOf, cX12_sumOf, 4, some .int)
def M_X12_latest : zM := (yX12_latest, cX12_latest, 3, some .int)
def M_X12_sums : zM := (yX12_sums, cX12_sums, 4, some .int)
def M_X12_aboard : zM := (yX12_aboard, cX12_aboard, 4, some .int)
def M_X12_fullest : zM := (yX12_fullest, cX12_fullest, 3, some .int)
def M_X12_arrivesWith : zM := (yX12_arrivesWith, cX12_arrivesWith, 4, some .int)
def M_X12_later : zM := (yX12_later, cX12_later, 7, some .int)
def M_X12_slack : zM := (yX12_slack, cX12_slack, 5, some .int)
def M_X12_tens : zM := (yX12_tens, cX12_tens, 4, none)
def M_X12_odds : zM := (yX12_odds, cX12_odds, 2, some .int)
def M_X12_gcd : zM := (yX12_gcd, cX12_gcd, 10, some .long)
def M_X12_mean : zM := (yX12_mean, cX12_mean, 3, some .long)
def M_X12_choices : zM := (yX12_choices, cX12_choices, 6, none)
def M_X12_two : zM := (yX12_two, cX12_two, 6, some .int)
def M_X12_whose : zM := (yX12_whose, cX12_whose, 5, some .int)
def M_X12_together : zM := (yX12_together, cX12_together, 3, some .int)
def M_X12_manyNow : zM := (yX12_manyNow, cX12_manyNow, 1, some .int)
def M_X12_cancel : zM := (yX12_cancel, cX12_cancel, 4, some .int)
def M_X12_strike : zM := (yX12_strike, cX12_strike, 2, some .int)
def M_X12_snow : zM := (yX12_snow, cX12_snow, 3, some .int)
def M_X12_goesWith : zM := (yX12_goesWith, cX12_goesWith, 4, none)
def M_X12_law : zM := (yX12_law, cX12_law, 3, some .int)
def M_X12_bestLate : zM := (yX12_bestLate, cX12_bestLate, 4, some .int)
def M_X12_worth : zM := (yX12_worth, cX12_worth, 1, some .int)
def M_X12_bestIn : zM := (yX12_bestIn, cX12_bestIn, 8, some .int)
def M_X12_bestGap : zM := (yX12_bestGap, cX12_bestGap, 1, some .int)
def M_X12_bestStart : zM := (yX12_bestStart, cX12_bestStart, 3, some .int)
def M_X12_need : zM := (yX12_need, cX12_need, 3, some .int)
def M_X12_extra : zM := (yX12_extra, cX12_extra, 3, some .int)
def M_X12_leastOf : zM := (yX12_leastOf, cX12_leastOf, 2, some .int)
def M_X12_ticketOf : zM := (yX12_ticketOf, cX12_ticketOf, 2, some .int)
def M_X12_wrongTicket : zM := (yX12_wrongTicket, cX12_wrongTicket, 4, some .int)
def M_X12_wrongTickets : zM := (yX12_wrongTickets, cX12_wrongTickets, 3, some .int)
def M_X12_tickets : zM := (yX12_tickets, cX12_tickets, 7, some .int)
def M_X12_forged : zM := (yX12_forged, cX12_forged, 5, some .int)
def M_X12_came : zM := (yX12_came, cX12_came, 7, some .int)
def M_X12_sure : zM := (yX12_sure, cX12_sure, 8, some .int)
def M_X12_placeAt : zM := (yX12_placeAt, cX12_placeAt, 3, some .int)
def M_X12_judge : zM := (yX12_judge, cX12_judge, 6, some .int)
def M_X12_drawn : zM := (yX12_drawn, cX12_drawn, 2, some .int)
def M_X12_mornings : zM := (yX12_mornings, cX12_mornings, 7, some .int)
def M_X12_image : zM := (yX12_image, cX12_image, 1, some .int)
def M_X12_restore : zM := (yX12_restore, cX12_restore, 1, some .int)
def M_X12_count : zM := (yX12_count, cX12_count, 2, some .int)
def M_X12_thrown : zM := (yX12_thrown, cX12_thrown, 1, some .int)
def M_X12_isShelf : zM := (yX12_isShelf, cX12_isShelf, 1, some .boolean)
def M_X12_wrongRow : zM := (yX12_wrongRow, cX12_wrongRow, 3, some .int)
def M_X12_wrongKept : zM := (yX12_wrongKept, cX12_wrongKept, 2, some .int)
def M_X12_keep : zM := (yX12_keep, cX12_keep, 5, some .int)
def M_X12_row : zM := (yX12_row, cX12_row, 5, some .int)
def M_X12_put : zM := (yX12_put, cX12_put, 5, some .int)
def M_X12_element : zM := (yX12_element, cX12_element, 3, some .long)
def M_X12_copy : zM := (yX12_copy, cX12_copy, 8, some .int)
def M_X12_costBy : zM := (yX12_costBy, cX12_costBy, 2, some .int)
def M_X12_cost : zM := (yX12_cost, cX12_cost, 3, some .int)
def M_X12_toss : zM := (yX12_toss, cX12_toss, 5, some .int)
def M_J6_bitCount_0f7a4 : zM := (yJ6_bitCount_0f7a4, cJ6_bitCount_0f7a4, 1, some .int)

theorem zp0 : Cond.selects "SlowerForTheLate" ⟨"SlowerForTheLate", "refusalOfRow", "(I)I"⟩ ⟨"SlowerForTheLate", "refusalOfRow", "(I)I"⟩ ∈ zTb := zpr (q := (⟨"SlowerForTheLate", "refusalOfRow", "(I)I"⟩, _)) 0 rfl
theorem zp1 : Cond.selects "SlowerForTheLate" ⟨"SlowerForTheLate", "isEmpty", "(I)Z"⟩ ⟨"SlowerForTheLate", "isEmpty", "(I)Z"⟩ ∈ zTb := zpr (q := (⟨"SlowerForTheLate", "isEmpty", "(I)Z"⟩, _)) 1 rfl
theorem zp2 : Cond.selects "SlowerForTheLate$Plan" ⟨"SlowerForTheLate$Plan", "tellRun", "(II)Z"⟩ ⟨"SlowerForTheLate$Plan", "tellRun", "(II)Z"⟩ ∈ zTb := zpr (q := (⟨"SlowerForTheLate$Plan", "tellRun", "(II)Z"⟩, _)) 2 rfl
theorem zp3 : Cond.selects "SlowerForTheLate$Plan" ⟨"SlowerForTheLate$Plan", "tellTrain", "(II)Z"⟩ ⟨"SlowerForTheLate$Plan", "tellTrain", "(II)Z"⟩ ∈ zTb := zpr (q := (⟨"SlowerForTheLate$Plan", "tellTrain", "(II)Z"⟩, _)) 3 rfl
theorem zp4 : Cond.selects "SlowerForTheLate$Plan" ⟨"SlowerForTheLate$Plan", "tellPerson", "(LSlowerForTheLate$Row;I)Z"⟩ ⟨"SlowerForTheLate$Plan", "tellPerson", "(LSlowerForTheLate$Row;I)Z"⟩ ∈ zTb := zpr (q := (⟨"SlowerForTheLate$Plan", "tellPerson", "(LSlowerForTheLate$Row;I)Z"⟩, _)) 4 rfl
theorem zp5 : Cond.selects "SlowerForTheLate$Plan" ⟨"SlowerForTheLate$Plan", "tellRule", "(II)Z"⟩ ⟨"SlowerForTheLate$Plan", "tellRule", "(II)Z"⟩ ∈ zTb := zpr (q := (⟨"SlowerForTheLate$Plan", "tellRule", "(II)Z"⟩, _)) 5 rfl
theorem zp6 : Cond.selects "SlowerForTheLate$Plan" ⟨"SlowerForTheLate$Plan", "tellCancelled", "(I)Z"⟩ ⟨"SlowerForTheLate$Plan", "tellCancelled", "(I)Z"⟩ ∈ zTb := zpr (q := (⟨"SlowerForTheLate$Plan", "tellCancelled", "(I)Z"⟩, _)) 6 rfl
theorem zp7 : Cond.selects "SlowerForTheLate$Trip" ⟨"SlowerForTheLate$Trip", "setPeople", "(LSlowerForTheLate$Plan;)V"⟩ ⟨"SlowerForTheLate$Trip", "setPeople", "(LSlowerForTheLate$Plan;)V"⟩ ∈ zTb := zpr (q := (⟨"SlowerForTheLate$Trip", "setPeople", "(LSlowerForTheLate$Plan;)V"⟩, _)) 7 rfl
theorem zp8 : Cond.selects "SlowerForTheLate$Trip" ⟨"SlowerForTheLate$Trip", "line", "(I)V"⟩ ⟨"SlowerForTheLate$Trip", "line", "(I)V"⟩ ∈ zTb := zpr (q := (⟨"SlowerForTheLate$Trip", "line", "(I)V"⟩, _)) 8 rfl
theorem zp9 : Cond.selects "SlowerForTheLate$Trip" ⟨"SlowerForTheLate$Trip", "setTrains", "(LSlowerForTheLate$Plan;I)V"⟩ ⟨"SlowerForTheLate$Trip", "setTrains", "(LSlowerForTheLate$Plan;I)V"⟩ ∈ zTb := zpr (q := (⟨"SlowerForTheLate$Trip", "setTrains", "(LSlowerForTheLate$Plan;I)V"⟩, _)) 9 rfl
theorem zp10 : Cond.selects "SlowerForTheLate$Trip" ⟨"SlowerForTheLate$Trip", "orderTrains", "(I)V"⟩ ⟨"SlowerForTheLate$Trip", "orderTrains", "(I)V"⟩ ∈ zTb := zpr (q := (⟨"SlowerForTheLate$Trip", "orderTrains", "(I)V"⟩, _)) 10 rfl
theorem zp11 : Cond.selects "SlowerForTheLate$Trip" ⟨"SlowerForTheLate$Trip", "isAhead", "(III)Z"⟩ ⟨"SlowerForTheLate$Trip", "isAhead", "(III)Z"⟩ ∈ zTb := zpr (q := (⟨"SlowerForTheLate$Trip", "isAhead", "(III)Z"⟩, _)) 11 rfl
theorem zp12 : Cond.selects "SlowerForTheLate$Trip" ⟨"SlowerForTheLate$Trip", "atStop", "(LSlowerForTheLate$Plan;II)V"⟩ ⟨"SlowerForTheLate$Trip", "atStop", "(LSlowerForTheLate$Plan;II)V"⟩ ∈ zTb := zpr (q := (⟨"SlowerForTheLate$Trip", "atStop", "(LSlowerForTheLate$Plan;II)V"⟩, _)) 12 rfl
theorem zp13 : Cond.selects "SlowerForTheLate$Trip" ⟨"SlowerForTheLate$Trip", "letOff", "(II)Z"⟩ ⟨"SlowerForTheLate$Trip", "letOff", "(II)Z"⟩ ∈ zTb := zpr (q := (⟨"SlowerForTheLate$Trip", "letOff", "(II)Z"⟩, _)) 13 rfl
theorem zp14 : Cond.selects "SlowerForTheLate$Trip" ⟨"SlowerForTheLate$Trip", "letOn", "(LSlowerForTheLate$Plan;II)Z"⟩ ⟨"SlowerForTheLate$Trip", "letOn", "(LSlowerForTheLate$Plan;II)Z"⟩ ∈ zTb := zpr (q := (⟨"SlowerForTheLate$Trip", "letOn", "(LSlowerForTheLate$Plan;II)Z"⟩, _)) 14 rfl
theorem zp15 : Cond.selects "SlowerForTheLate$Trip" ⟨"SlowerForTheLate$Trip", "isLetOn", "(LSlowerForTheLate$Plan;III)Z"⟩ ⟨"SlowerForTheLate$Trip", "isLetOn", "(LSlowerForTheLate$Plan;III)Z"⟩ ∈ zTb := zpr (q := (⟨"SlowerForTheLate$Trip", "isLetOn", "(LSlowerForTheLate$Plan;III)Z"⟩, _)) 15 rfl
theorem zp16 : Cond.selects "SlowerForTheLate$Trip" ⟨"SlowerForTheLate$Trip", "may", "(LSlowerForTheLate$Plan;II)Z"⟩ ⟨"SlowerForTheLate$Trip", "may", "(LSlowerForTheLate$Plan;II)Z"⟩ ∈ zTb := zpr (q := (⟨"SlowerForTheLate$Trip", "may", "(LSlowerForTheLate$Plan;II)Z"⟩, _)) 16 rfl
theorem zp17 : Cond.selects "SlowerForTheLate" ⟨"SlowerForTheLate", "rideOf", "(II)I"⟩ ⟨"SlowerForTheLate", "rideOf", "(II)I"⟩ ∈ zTb := zpr (q := (⟨"SlowerForTheLate", "rideOf", "(II)I"⟩, _)) 17 rfl
theorem zp18 : Cond.selects "SlowerForTheLate" ⟨"SlowerForTheLate", "allMissed", "()I"⟩ ⟨"SlowerForTheLate", "allMissed", "()I"⟩ ∈ zTb := zpr (q := (⟨"SlowerForTheLate", "allMissed", "()I"⟩, _)) 18 rfl
theorem zp19 : Cond.selects "SlowerForTheLate" ⟨"SlowerForTheLate", "allWaited", "()I"⟩ ⟨"SlowerForTheLate", "allWaited", "()I"⟩ ∈ zTb := zpr (q := (⟨"SlowerForTheLate", "allWaited", "()I"⟩, _)) 19 rfl
theorem zp20 : Cond.selects "SlowerForTheLate" ⟨"SlowerForTheLate", "allRefunds", "()I"⟩ ⟨"SlowerForTheLate", "allRefunds", "()I"⟩ ∈ zTb := zpr (q := (⟨"SlowerForTheLate", "allRefunds", "()I"⟩, _)) 20 rfl
theorem zp21 : Cond.selects "SlowerForTheLate" ⟨"SlowerForTheLate", "arrivalFrom", "(II)I"⟩ ⟨"SlowerForTheLate", "arrivalFrom", "(II)I"⟩ ∈ zTb := zpr (q := (⟨"SlowerForTheLate", "arrivalFrom", "(II)I"⟩, _)) 21 rfl
theorem zp22 : Cond.selects "SlowerForTheLate" ⟨"SlowerForTheLate", "neitherGains", "(II)Z"⟩ ⟨"SlowerForTheLate", "neitherGains", "(II)Z"⟩ ∈ zTb := zpr (q := (⟨"SlowerForTheLate", "neitherGains", "(II)Z"⟩, _)) 22 rfl
theorem zp23 : Cond.selects "SlowerForTheLate" ⟨"SlowerForTheLate", "arrivingWithLate", "(I)I"⟩ ⟨"SlowerForTheLate", "arrivingWithLate", "(I)I"⟩ ∈ zTb := zpr (q := (⟨"SlowerForTheLate", "arrivingWithLate", "(I)I"⟩, _)) 23 rfl
theorem zp24 : Cond.selects "SlowerForTheLate" ⟨"SlowerForTheLate", "startOfLeastWorth", "(IIII)I"⟩ ⟨"SlowerForTheLate", "startOfLeastWorth", "(IIII)I"⟩ ∈ zTb := zpr (q := (⟨"SlowerForTheLate", "startOfLeastWorth", "(IIII)I"⟩, _)) 24 rfl
theorem zp25 : Cond.selects "SlowerForTheLate" ⟨"SlowerForTheLate", "refusalOfTickets", "(I)I"⟩ ⟨"SlowerForTheLate", "refusalOfTickets", "(I)I"⟩ ∈ zTb := zpr (q := (⟨"SlowerForTheLate", "refusalOfTickets", "(I)I"⟩, _)) 25 rfl
theorem zp26 : Cond.selects "SlowerForTheLate" ⟨"SlowerForTheLate", "firstMisfit", "(LSlowerForTheLate$Row;I)I"⟩ ⟨"SlowerForTheLate", "firstMisfit", "(LSlowerForTheLate$Row;I)I"⟩ ∈ zTb := zpr (q := (⟨"SlowerForTheLate", "firstMisfit", "(LSlowerForTheLate$Row;I)I"⟩, _)) 26 rfl
theorem zp27 : Cond.selects "SlowerForTheLate" ⟨"SlowerForTheLate", "whereabouts", "(II)I"⟩ ⟨"SlowerForTheLate", "whereabouts", "(II)I"⟩ ∈ zTb := zpr (q := (⟨"SlowerForTheLate", "whereabouts", "(II)I"⟩, _)) 27 rfl
theorem zp28 : Cond.selects "SlowerForTheLate$Row" ⟨"SlowerForTheLate$Row", "narrowed", "(I)I"⟩ ⟨"SlowerForTheLate$Row", "narrowed", "(I)I"⟩ ∈ zTb := zpr (q := (⟨"SlowerForTheLate$Row", "narrowed", "(I)I"⟩, _)) 28 rfl
theorem zp29 : Cond.selects "SlowerForTheLate" ⟨"SlowerForTheLate", "refusalOfOne", "(I)I"⟩ ⟨"SlowerForTheLate", "refusalOfOne", "(I)I"⟩ ∈ zTb := zpr (q := (⟨"SlowerForTheLate", "refusalOfOne", "(I)I"⟩, _)) 29 rfl
theorem zp31 : Cond.selects "SlowerForTheLateModel" ⟨"SlowerForTheLateModel", "wrongRow", "(II)I"⟩ ⟨"SlowerForTheLateModel", "wrongRow", "(II)I"⟩ ∈ zTb := zpr (q := (⟨"SlowerForTheLateModel", "wrongRow", "(II)I"⟩, _)) 31 rfl
theorem zp32 : Cond.selects "SlowerForTheLateModel" ⟨"SlowerForTheLateModel", "readsStatement", "()Z"⟩ ⟨"SlowerForTheLateModel", "readsStatement", "()Z"⟩ ∈ zTb := zpr (q := (⟨"SlowerForTheLateModel", "readsStatement", "()Z"⟩, _)) 32 rfl
theorem zp33 : Cond.selects "SlowerForTheLateModel" ⟨"SlowerForTheLateModel", "here", "()I"⟩ ⟨"SlowerForTheLateModel", "here", "()I"⟩ ∈ zTb := zpr (q := (⟨"SlowerForTheLateModel", "here", "()I"⟩, _)) 33 rfl
theorem zp34 : Cond.selects "SlowerForTheLateModel" ⟨"SlowerForTheLateModel", "readsNumber", "(II)Z"⟩ ⟨"SlowerForTheLateModel", "readsNumber", "(II)Z"⟩ ∈ zTb := zpr (q := (⟨"SlowerForTheLateModel", "readsNumber", "(II)Z"⟩, _)) 34 rfl
theorem zp35 : Cond.selects "SlowerForTheLateModel" ⟨"SlowerForTheLateModel", "isDone", "(I)Z"⟩ ⟨"SlowerForTheLateModel", "isDone", "(I)Z"⟩ ∈ zTb := zpr (q := (⟨"SlowerForTheLateModel", "isDone", "(I)Z"⟩, _)) 35 rfl
theorem zp36 : Cond.selects "SlowerForTheLateModel" ⟨"SlowerForTheLateModel", "addsTrain", "(II)V"⟩ ⟨"SlowerForTheLateModel", "addsTrain", "(II)V"⟩ ∈ zTb := zpr (q := (⟨"SlowerForTheLateModel", "addsTrain", "(II)V"⟩, _)) 36 rfl
theorem zp37 : Cond.selects "SlowerForTheLateModel" ⟨"SlowerForTheLateModel", "areStops", "(II)Z"⟩ ⟨"SlowerForTheLateModel", "areStops", "(II)Z"⟩ ∈ zTb := zpr (q := (⟨"SlowerForTheLateModel", "areStops", "(II)Z"⟩, _)) 37 rfl
theorem zp38 : Cond.selects "SlowerForTheLateModel" ⟨"SlowerForTheLateModel", "isTrain", "(I)Z"⟩ ⟨"SlowerForTheLateModel", "isTrain", "(I)Z"⟩ ∈ zTb := zpr (q := (⟨"SlowerForTheLateModel", "isTrain", "(I)Z"⟩, _)) 38 rfl
theorem zp39 : Cond.selects "SlowerForTheLateModel" ⟨"SlowerForTheLateModel", "isTraveller", "(I)Z"⟩ ⟨"SlowerForTheLateModel", "isTraveller", "(I)Z"⟩ ∈ zTb := zpr (q := (⟨"SlowerForTheLateModel", "isTraveller", "(I)Z"⟩, _)) 39 rfl
theorem zp40 : Cond.selects "SlowerForTheLateModel" ⟨"SlowerForTheLateModel", "comesAt", "(I)I"⟩ ⟨"SlowerForTheLateModel", "comesAt", "(I)I"⟩ ∈ zTb := zpr (q := (⟨"SlowerForTheLateModel", "comesAt", "(I)I"⟩, _)) 40 rfl
theorem zp41 : Cond.selects "SlowerForTheLateModel" ⟨"SlowerForTheLateModel", "baseOf", "(I)I"⟩ ⟨"SlowerForTheLateModel", "baseOf", "(I)I"⟩ ∈ zTb := zpr (q := (⟨"SlowerForTheLateModel", "baseOf", "(I)I"⟩, _)) 41 rfl
theorem zp42 : Cond.selects "SlowerForTheLateModel" ⟨"SlowerForTheLateModel", "figure", "(I)I"⟩ ⟨"SlowerForTheLateModel", "figure", "(I)I"⟩ ∈ zTb := zpr (q := (⟨"SlowerForTheLateModel", "figure", "(I)I"⟩, _)) 42 rfl
theorem zp43 : Cond.selects "SlowerForTheLateModel" ⟨"SlowerForTheLateModel", "kind", "(I)I"⟩ ⟨"SlowerForTheLateModel", "kind", "(I)I"⟩ ∈ zTb := zpr (q := (⟨"SlowerForTheLateModel", "kind", "(I)I"⟩, _)) 43 rfl
theorem zp44 : Cond.selects "SlowerForTheLateModel" ⟨"SlowerForTheLateModel", "rankOf", "(I)I"⟩ ⟨"SlowerForTheLateModel", "rankOf", "(I)I"⟩ ∈ zTb := zpr (q := (⟨"SlowerForTheLateModel", "rankOf", "(I)I"⟩, _)) 44 rfl
theorem zp45 : Cond.selects "SlowerForTheLateModel" ⟨"SlowerForTheLateModel", "placesOf", "(I)I"⟩ ⟨"SlowerForTheLateModel", "placesOf", "(I)I"⟩ ∈ zTb := zpr (q := (⟨"SlowerForTheLateModel", "placesOf", "(I)I"⟩, _)) 45 rfl
theorem zp46 : Cond.selects "SlowerForTheLateModel" ⟨"SlowerForTheLateModel", "offOf", "(I)I"⟩ ⟨"SlowerForTheLateModel", "offOf", "(I)I"⟩ ∈ zTb := zpr (q := (⟨"SlowerForTheLateModel", "offOf", "(I)I"⟩, _)) 46 rfl
theorem zp47 : Cond.selects "SlowerForTheLateModel" ⟨"SlowerForTheLateModel", "to", "(I)I"⟩ ⟨"SlowerForTheLateModel", "to", "(I)I"⟩ ∈ zTb := zpr (q := (⟨"SlowerForTheLateModel", "to", "(I)I"⟩, _)) 47 rfl
theorem zp48 : Cond.selects "SlowerForTheLateModel" ⟨"SlowerForTheLateModel", "wouldTake", "(II)Z"⟩ ⟨"SlowerForTheLateModel", "wouldTake", "(II)Z"⟩ ∈ zTb := zpr (q := (⟨"SlowerForTheLateModel", "wouldTake", "(II)Z"⟩, _)) 48 rfl
theorem zp49 : Cond.selects "SlowerForTheLateModel" ⟨"SlowerForTheLateModel", "refundOf", "(II)I"⟩ ⟨"SlowerForTheLateModel", "refundOf", "(II)I"⟩ ∈ zTb := zpr (q := (⟨"SlowerForTheLateModel", "refundOf", "(II)I"⟩, _)) 49 rfl
theorem zp50 : Cond.selects "SlowerForTheLateModel" ⟨"SlowerForTheLateModel", "wrongKept", "(I)I"⟩ ⟨"SlowerForTheLateModel", "wrongKept", "(I)I"⟩ ∈ zTb := zpr (q := (⟨"SlowerForTheLateModel", "wrongKept", "(I)I"⟩, _)) 50 rfl
theorem zp51 : Cond.selects "SlowerForTheLateModel" ⟨"SlowerForTheLateModel", "goes", "()V"⟩ ⟨"SlowerForTheLateModel", "goes", "()V"⟩ ∈ zTb := zpr (q := (⟨"SlowerForTheLateModel", "goes", "()V"⟩, _)) 51 rfl
theorem zp52 : Cond.selects "SlowerForTheLateModel" ⟨"SlowerForTheLateModel", "begins", "()V"⟩ ⟨"SlowerForTheLateModel", "begins", "()V"⟩ ∈ zTb := zpr (q := (⟨"SlowerForTheLateModel", "begins", "()V"⟩, _)) 52 rfl
theorem zp53 : Cond.selects "SlowerForTheLateModel" ⟨"SlowerForTheLateModel", "nextTrain", "()I"⟩ ⟨"SlowerForTheLateModel", "nextTrain", "()I"⟩ ∈ zTb := zpr (q := (⟨"SlowerForTheLateModel", "nextTrain", "()I"⟩, _)) 53 rfl
theorem zp54 : Cond.selects "SlowerForTheLateModel" ⟨"SlowerForTheLateModel", "stops", "(I)V"⟩ ⟨"SlowerForTheLateModel", "stops", "(I)V"⟩ ∈ zTb := zpr (q := (⟨"SlowerForTheLateModel", "stops", "(I)V"⟩, _)) 54 rfl
theorem zp55 : Cond.selects "SlowerForTheLateModel" ⟨"SlowerForTheLateModel", "getsOff", "(I)V"⟩ ⟨"SlowerForTheLateModel", "getsOff", "(I)V"⟩ ∈ zTb := zpr (q := (⟨"SlowerForTheLateModel", "getsOff", "(I)V"⟩, _)) 55 rfl
theorem zp56 : Cond.selects "SlowerForTheLateModel" ⟨"SlowerForTheLateModel", "asks", "(I)I"⟩ ⟨"SlowerForTheLateModel", "asks", "(I)I"⟩ ∈ zTb := zpr (q := (⟨"SlowerForTheLateModel", "asks", "(I)I"⟩, _)) 56 rfl
theorem zp57 : Cond.selects "SlowerForTheLateModel" ⟨"SlowerForTheLateModel", "from", "(I)I"⟩ ⟨"SlowerForTheLateModel", "from", "(I)I"⟩ ∈ zTb := zpr (q := (⟨"SlowerForTheLateModel", "from", "(I)I"⟩, _)) 57 rfl
theorem zp58 : Cond.selects "SlowerForTheLateModel" ⟨"SlowerForTheLateModel", "isAskedAhead", "(II)Z"⟩ ⟨"SlowerForTheLateModel", "isAskedAhead", "(II)Z"⟩ ∈ zTb := zpr (q := (⟨"SlowerForTheLateModel", "isAskedAhead", "(II)Z"⟩, _)) 58 rfl
theorem zp59 : Cond.selects "SlowerForTheLateModel" ⟨"SlowerForTheLateModel", "tries", "(II)V"⟩ ⟨"SlowerForTheLateModel", "tries", "(II)V"⟩ ∈ zTb := zpr (q := (⟨"SlowerForTheLateModel", "tries", "(II)V"⟩, _)) 59 rfl
theorem zp60 : Cond.selects "SlowerForTheLateModel" ⟨"SlowerForTheLateModel", "latest", "()I"⟩ ⟨"SlowerForTheLateModel", "latest", "()I"⟩ ∈ zTb := zpr (q := (⟨"SlowerForTheLateModel", "latest", "()I"⟩, _)) 60 rfl
theorem zp61 : Cond.selects "SlowerForTheLateModel" ⟨"SlowerForTheLateModel", "sumOf", "(II)I"⟩ ⟨"SlowerForTheLateModel", "sumOf", "(II)I"⟩ ∈ zTb := zpr (q := (⟨"SlowerForTheLateModel", "sumOf", "(II)I"⟩, _)) 61 rfl
theorem zp62 : Cond.selects "SlowerForTheLateModel" ⟨"SlowerForTheLateModel", "arrivesWith", "(II)I"⟩ ⟨"SlowerForTheLateModel", "arrivesWith", "(II)I"⟩ ∈ zTb := zpr (q := (⟨"SlowerForTheLateModel", "arrivesWith", "(II)I"⟩, _)) 62 rfl
theorem zp63 : Cond.selects "SlowerForTheLateModel" ⟨"SlowerForTheLateModel", "arrives", "(I)I"⟩ ⟨"SlowerForTheLateModel", "arrives", "(I)I"⟩ ∈ zTb := zpr (q := (⟨"SlowerForTheLateModel", "arrives", "(I)I"⟩, _)) 63 rfl
theorem zp64 : Cond.selects "SlowerForTheLateModel" ⟨"SlowerForTheLateModel", "tens", "(I)V"⟩ ⟨"SlowerForTheLateModel", "tens", "(I)V"⟩ ∈ zTb := zpr (q := (⟨"SlowerForTheLateModel", "tens", "(I)V"⟩, _)) 64 rfl
theorem zp65 : Cond.selects "SlowerForTheLateModel" ⟨"SlowerForTheLateModel", "choices", "(II)V"⟩ ⟨"SlowerForTheLateModel", "choices", "(II)V"⟩ ∈ zTb := zpr (q := (⟨"SlowerForTheLateModel", "choices", "(II)V"⟩, _)) 65 rfl
theorem zp66 : Cond.selects "SlowerForTheLateModel" ⟨"SlowerForTheLateModel", "manyNow", "()I"⟩ ⟨"SlowerForTheLateModel", "manyNow", "()I"⟩ ∈ zTb := zpr (q := (⟨"SlowerForTheLateModel", "manyNow", "()I"⟩, _)) 66 rfl
theorem zp67 : Cond.selects "SlowerForTheLateModel" ⟨"SlowerForTheLateModel", "arriveMany", "()I"⟩ ⟨"SlowerForTheLateModel", "arriveMany", "()I"⟩ ∈ zTb := zpr (q := (⟨"SlowerForTheLateModel", "arriveMany", "()I"⟩, _)) 67 rfl
theorem zp68 : Cond.selects "SlowerForTheLateModel" ⟨"SlowerForTheLateModel", "goesWith", "(II)V"⟩ ⟨"SlowerForTheLateModel", "goesWith", "(II)V"⟩ ∈ zTb := zpr (q := (⟨"SlowerForTheLateModel", "goesWith", "(II)V"⟩, _)) 68 rfl
theorem zp69 : Cond.selects "SlowerForTheLateModel" ⟨"SlowerForTheLateModel", "allMinutes", "()I"⟩ ⟨"SlowerForTheLateModel", "allMinutes", "()I"⟩ ∈ zTb := zpr (q := (⟨"SlowerForTheLateModel", "allMinutes", "()I"⟩, _)) 69 rfl
theorem zp70 : Cond.selects "SlowerForTheLateModel" ⟨"SlowerForTheLateModel", "bestIn", "(IIII)I"⟩ ⟨"SlowerForTheLateModel", "bestIn", "(IIII)I"⟩ ∈ zTb := zpr (q := (⟨"SlowerForTheLateModel", "bestIn", "(IIII)I"⟩, _)) 70 rfl
theorem zp71 : Cond.selects "SlowerForTheLateModel" ⟨"SlowerForTheLateModel", "wrongTickets", "(I)I"⟩ ⟨"SlowerForTheLateModel", "wrongTickets", "(I)I"⟩ ∈ zTb := zpr (q := (⟨"SlowerForTheLateModel", "wrongTickets", "(I)I"⟩, _)) 71 rfl
theorem zp72 : Cond.selects "SlowerForTheLateModel" ⟨"SlowerForTheLateModel", "wrongTicket", "(I)I"⟩ ⟨"SlowerForTheLateModel", "wrongTicket", "(I)I"⟩ ∈ zTb := zpr (q := (⟨"SlowerForTheLateModel", "wrongTicket", "(I)I"⟩, _)) 72 rfl
theorem zp73 : Cond.selects "SlowerForTheLateModel" ⟨"SlowerForTheLateModel", "leastOf", "(I)I"⟩ ⟨"SlowerForTheLateModel", "leastOf", "(I)I"⟩ ∈ zTb := zpr (q := (⟨"SlowerForTheLateModel", "leastOf", "(I)I"⟩, _)) 73 rfl
theorem zp74 : Cond.selects "SlowerForTheLateModel" ⟨"SlowerForTheLateModel", "ticketOf", "(I)I"⟩ ⟨"SlowerForTheLateModel", "ticketOf", "(I)I"⟩ ∈ zTb := zpr (q := (⟨"SlowerForTheLateModel", "ticketOf", "(I)I"⟩, _)) 74 rfl
theorem zp75 : Cond.selects "SlowerForTheLateModel" ⟨"SlowerForTheLateModel", "placeAt", "(II)I"⟩ ⟨"SlowerForTheLateModel", "placeAt", "(II)I"⟩ ∈ zTb := zpr (q := (⟨"SlowerForTheLateModel", "placeAt", "(II)I"⟩, _)) 75 rfl
theorem zp76 : Cond.selects "SlowerForTheLateModel" ⟨"SlowerForTheLateModel", "drawn", "(I)I"⟩ ⟨"SlowerForTheLateModel", "drawn", "(I)I"⟩ ∈ zTb := zpr (q := (⟨"SlowerForTheLateModel", "drawn", "(I)I"⟩, _)) 76 rfl
theorem zw1 : (Jvm.Cond.initialized "SlowerForTheLate") ∈ zTb := zin1 1 (by decide +kernel) rfl
theorem zw2 : (Jvm.Cond.initialized "SlowerForTheLate$Plan") ∈ zTb := zin1 2 (by decide +kernel) rfl
theorem zw3 : (Jvm.Cond.initialized "SlowerForTheLate$Walker") ∈ zTb := zin1 3 (by decide +kernel) rfl
theorem zw4 : (Jvm.Cond.initialized "SlowerForTheLate$Trip") ∈ zTb := zin1 4 (by decide +kernel) rfl
theorem zw5 : (Jvm.Cond.initialized "SlowerForTheLateModel") ∈ zTb := zin1 5 (by decide +kernel) rfl
theorem zw6 : (Jvm.Cond.initialized "java/lang/System") ∈ zTb := zin1 6 (by decide +kernel) rfl
theorem zw7 : (Jvm.Cond.initialized "SlowerForTheLate$Runner") ∈ zTb := zin1 7 (by decide +kernel) rfl
theorem zw8 : (Jvm.Cond.initialized "SlowerForTheLate$Tardy") ∈ zTb := zin1 8 (by decide +kernel) rfl
theorem zw9 : (Jvm.Cond.initialized "SlowerForTheLate$Lover") ∈ zTb := zin1 9 (by decide +kernel) rfl
theorem zw10 : (Jvm.Cond.initialized "SlowerForTheLate$Staff") ∈ zTb := zin1 10 (by decide +kernel) rfl
theorem zw11 : (Jvm.Cond.initialized "SlowerForTheLate$Sleeper") ∈ zTb := zin1 11 (by decide +kernel) rfl
theorem zw12 : (Jvm.Cond.initialized "SlowerForTheLate$Aimer") ∈ zTb := zin1 12 (by decide +kernel) rfl
theorem zw13 : (Jvm.Cond.initialized "SlowerForTheLate$Parent") ∈ zTb := zin1 13 (by decide +kernel) rfl
theorem zw14 : (Jvm.Cond.initialized "java/lang/Math") ∈ zTb := zin1 14 (by decide +kernel) rfl
theorem zw15 : (Jvm.Cond.initialized "java/lang/Integer") ∈ zTb := zin1 15 (by decide +kernel) rfl
theorem zw16 : (Jvm.Cond.initialized "SlowerForTheLate$Row") ∈ zTb := zin1 16 (by decide +kernel) rfl
theorem zw27 : (Jvm.Cond.code ({ cls := "SlowerForTheLate", name := "<init>", desc := "()V" } : Jvm.MethodName) prog_1_method_1_code (1 : Nat) (Option.none : Option Jvm.ClassFile.FieldType)) ∈ zTb := zin1 27 (by decide +kernel) rfl
theorem zw28 : (Jvm.Cond.methodLink "SlowerForTheLate" (1 : Nat) ({ cls := "java/lang/Object", name := "<init>", desc := "()V" } : Jvm.MethodName)) ∈ zTb := zin1 28 (by decide +kernel) rfl
theorem zw29 : (Jvm.Cond.instanceMethod ({ cls := "java/lang/Object", name := "<init>", desc := "()V" } : Jvm.MethodName)) ∈ zTb := zin1 29 (by decide +kernel) rfl
theorem zw30 : (Jvm.Cond.code ({ cls := "java/lang/Object", name := "<init>", desc := "()V" } : Jvm.MethodName) object_method_1_code (1 : Nat) (Option.none : Option Jvm.ClassFile.FieldType)) ∈ zTb := zin1 30 (by decide +kernel) rfl
theorem zw31 : (Jvm.Cond.classLink "SlowerForTheLate" (7 : Nat) "SlowerForTheLate$Plan") ∈ zTb := zin1 31 (by decide +kernel) rfl
theorem zw32 : (Jvm.Cond.instantiable "SlowerForTheLate$Plan" (11 : Nat)) ∈ zTb := zin1 32 (by decide +kernel) rfl
theorem zw33 : (Jvm.Cond.methodLink "SlowerForTheLate" (9 : Nat) ({ cls := "SlowerForTheLate$Plan", name := "<init>", desc := "()V" } : Jvm.MethodName)) ∈ zTb := zin1 33 (by decide +kernel) rfl
theorem zw34 : (Jvm.Cond.instanceMethod ({ cls := "SlowerForTheLate$Plan", name := "<init>", desc := "()V" } : Jvm.MethodName)) ∈ zTb := zin1 34 (by decide +kernel) rfl
theorem zw35 : (Jvm.Cond.code ({ cls := "SlowerForTheLate$Plan", name := "<init>", desc := "()V" } : Jvm.MethodName) prog_5_method_1_code (3 : Nat) (Option.none : Option Jvm.ClassFile.FieldType)) ∈ zTb := zin1 35 (by decide +kernel) rfl
theorem zw36 : (Jvm.Cond.methodLink "SlowerForTheLate$Plan" (1 : Nat) ({ cls := "java/lang/Object", name := "<init>", desc := "()V" } : Jvm.MethodName)) ∈ zTb := zin1 36 (by decide +kernel) rfl
theorem zw37 : (Jvm.Cond.classLink "SlowerForTheLate$Plan" (13 : Nat) "SlowerForTheLate$Walker") ∈ zTb := zin1 37 (by decide +kernel) rfl
theorem zw39 : (Jvm.Cond.instantiable "SlowerForTheLate$Walker" (2 : Nat)) ∈ zTb := zin1 39 (by decide +kernel) rfl
theorem zw40 : (Jvm.Cond.methodLink "SlowerForTheLate$Plan" (48 : Nat) ({ cls := "SlowerForTheLate$Walker", name := "<init>", desc := "(II)V" } : Jvm.MethodName)) ∈ zTb := zin1 40 (by decide +kernel) rfl
theorem zw41 : (Jvm.Cond.instanceMethod ({ cls := "SlowerForTheLate$Walker", name := "<init>", desc := "(II)V" } : Jvm.MethodName)) ∈ zTb := zin1 41 (by decide +kernel) rfl
theorem zw42 : (Jvm.Cond.code ({ cls := "SlowerForTheLate$Walker", name := "<init>", desc := "(II)V" } : Jvm.MethodName) prog_12_method_1_code (3 : Nat) (Option.none : Option Jvm.ClassFile.FieldType)) ∈ zTb := zin1 42 (by decide +kernel) rfl
theorem zw43 : (Jvm.Cond.methodLink "SlowerForTheLate$Walker" (1 : Nat) ({ cls := "java/lang/Object", name := "<init>", desc := "()V" } : Jvm.MethodName)) ∈ zTb := zin1 43 (by decide +kernel) rfl
theorem zw44 : (Jvm.Cond.fieldLink "SlowerForTheLate$Walker" (7 : Nat) "SlowerForTheLate$Walker" "kind" "I") ∈ zTb := zin1 44 (by decide +kernel) rfl
theorem zw45 : (Jvm.Cond.fieldLink "SlowerForTheLate" (89 : Nat) "SlowerForTheLate$Walker" "kind" "I") ∈ zTb := zin1 45 (by decide +kernel) rfl
theorem zw46 : (Jvm.Cond.fieldLink "SlowerForTheLate$Walker" (13 : Nat) "SlowerForTheLate$Walker" "figure" "I") ∈ zTb := zin1 46 (by decide +kernel) rfl
theorem zw47 : (Jvm.Cond.fieldLink "SlowerForTheLate$Sleeper" (11 : Nat) "SlowerForTheLate$Sleeper" "figure" "I") ∈ zTb := zin1 47 (by decide +kernel) rfl
theorem zw48 : (Jvm.Cond.sameField "SlowerForTheLate$Sleeper" "SlowerForTheLate$Walker" "figure" "I") ∈ zTb := zin1 48 (by decide +kernel) rfl
theorem zw49 : (Jvm.Cond.fieldLink "SlowerForTheLate$Tardy" (11 : Nat) "SlowerForTheLate$Tardy" "figure" "I") ∈ zTb := zin1 49 (by decide +kernel) rfl
theorem zw50 : (Jvm.Cond.sameField "SlowerForTheLate$Tardy" "SlowerForTheLate$Walker" "figure" "I") ∈ zTb := zin1 50 (by decide +kernel) rfl
theorem zw51 : (Jvm.Cond.fieldLink "SlowerForTheLate$Runner" (11 : Nat) "SlowerForTheLate$Runner" "figure" "I") ∈ zTb := zin1 51 (by decide +kernel) rfl
theorem zw52 : (Jvm.Cond.sameField "SlowerForTheLate$Runner" "SlowerForTheLate$Walker" "figure" "I") ∈ zTb := zin1 52 (by decide +kernel) rfl
theorem zw53 : (Jvm.Cond.fieldLink "SlowerForTheLate$Aimer" (17 : Nat) "SlowerForTheLate$Aimer" "figure" "I") ∈ zTb := zin1 53 (by decide +kernel) rfl
theorem zw54 : (Jvm.Cond.sameField "SlowerForTheLate$Aimer" "SlowerForTheLate$Walker" "figure" "I") ∈ zTb := zin1 54 (by decide +kernel) rfl
theorem zw55 : (Jvm.Cond.fieldLink "SlowerForTheLate" (92 : Nat) "SlowerForTheLate$Walker" "figure" "I") ∈ zTb := zin1 55 (by decide +kernel) rfl
theorem zw61 : (Jvm.Cond.arrayClass Jvm.ClassFile.FieldType.int) ∈ zTb := zin1 61 (by decide +kernel) rfl
theorem zw62 : (Jvm.Cond.arrayClass Jvm.ClassFile.FieldType.boolean) ∈ zTb := zin1 62 (by decide +kernel) rfl
theorem zw63 : (Jvm.Cond.fieldLink "SlowerForTheLate$Plan" (7 : Nat) "SlowerForTheLate$Plan" "people" "I") ∈ zTb := zin1 63 (by decide +kernel) rfl
theorem zw64 : (Jvm.Cond.fieldLink "SlowerForTheLate" (144 : Nat) "SlowerForTheLate$Plan" "people" "I") ∈ zTb := zin1 64 (by decide +kernel) rfl
theorem zw65 : (Jvm.Cond.fieldLink "SlowerForTheLate$Trip" (108 : Nat) "SlowerForTheLate$Plan" "people" "I") ∈ zTb := zin1 65 (by decide +kernel) rfl
theorem zw66 : (Jvm.Cond.fieldLink "SlowerForTheLate$Plan" (15 : Nat) "SlowerForTheLate$Plan" "ones" "[LSlowerForTheLate$Walker;") ∈ zTb := zin1 66 (by decide +kernel) rfl
theorem zw67 : (Jvm.Cond.fieldLink "SlowerForTheLate" (86 : Nat) "SlowerForTheLate$Plan" "ones" "[LSlowerForTheLate$Walker;") ∈ zTb := zin1 67 (by decide +kernel) rfl
theorem zw68 : (Jvm.Cond.fieldLink "SlowerForTheLate$Trip" (109 : Nat) "SlowerForTheLate$Plan" "ones" "[LSlowerForTheLate$Walker;") ∈ zTb := zin1 68 (by decide +kernel) rfl
theorem zw69 : (Jvm.Cond.fieldLink "SlowerForTheLate$Plan" (19 : Nat) "SlowerForTheLate$Plan" "from" "[I") ∈ zTb := zin1 69 (by decide +kernel) rfl
theorem zw70 : (Jvm.Cond.fieldLink "SlowerForTheLate" (95 : Nat) "SlowerForTheLate$Plan" "from" "[I") ∈ zTb := zin1 70 (by decide +kernel) rfl
theorem zw71 : (Jvm.Cond.fieldLink "SlowerForTheLate$Trip" (165 : Nat) "SlowerForTheLate$Plan" "from" "[I") ∈ zTb := zin1 71 (by decide +kernel) rfl
theorem zw72 : (Jvm.Cond.fieldLink "SlowerForTheLate$Plan" (23 : Nat) "SlowerForTheLate$Plan" "to" "[I") ∈ zTb := zin1 72 (by decide +kernel) rfl
theorem zw73 : (Jvm.Cond.fieldLink "SlowerForTheLate" (98 : Nat) "SlowerForTheLate$Plan" "to" "[I") ∈ zTb := zin1 73 (by decide +kernel) rfl
theorem zw74 : (Jvm.Cond.fieldLink "SlowerForTheLate$Trip" (132 : Nat) "SlowerForTheLate$Plan" "to" "[I") ∈ zTb := zin1 74 (by decide +kernel) rfl
theorem zw75 : (Jvm.Cond.fieldLink "SlowerForTheLate$Plan" (26 : Nat) "SlowerForTheLate$Plan" "base" "[I") ∈ zTb := zin1 75 (by decide +kernel) rfl
theorem zw76 : (Jvm.Cond.fieldLink "SlowerForTheLate" (101 : Nat) "SlowerForTheLate$Plan" "base" "[I") ∈ zTb := zin1 76 (by decide +kernel) rfl
theorem zw77 : (Jvm.Cond.fieldLink "SlowerForTheLate$Trip" (113 : Nat) "SlowerForTheLate$Plan" "base" "[I") ∈ zTb := zin1 77 (by decide +kernel) rfl
theorem zw78 : (Jvm.Cond.fieldLink "SlowerForTheLate$Plan" (29 : Nat) "SlowerForTheLate$Plan" "trains" "I") ∈ zTb := zin1 78 (by decide +kernel) rfl
theorem zw79 : (Jvm.Cond.fieldLink "SlowerForTheLate" (161 : Nat) "SlowerForTheLate$Plan" "trains" "I") ∈ zTb := zin1 79 (by decide +kernel) rfl
theorem zw80 : (Jvm.Cond.fieldLink "SlowerForTheLate$Trip" (140 : Nat) "SlowerForTheLate$Plan" "trains" "I") ∈ zTb := zin1 80 (by decide +kernel) rfl
theorem zw81 : (Jvm.Cond.fieldLink "SlowerForTheLate$Plan" (32 : Nat) "SlowerForTheLate$Plan" "start" "[I") ∈ zTb := zin1 81 (by decide +kernel) rfl
theorem zw82 : (Jvm.Cond.fieldLink "SlowerForTheLate" (167 : Nat) "SlowerForTheLate$Plan" "start" "[I") ∈ zTb := zin1 82 (by decide +kernel) rfl
theorem zw83 : (Jvm.Cond.fieldLink "SlowerForTheLate$Trip" (147 : Nat) "SlowerForTheLate$Plan" "start" "[I") ∈ zTb := zin1 83 (by decide +kernel) rfl
theorem zw84 : (Jvm.Cond.fieldLink "SlowerForTheLate$Plan" (35 : Nat) "SlowerForTheLate$Plan" "seats" "[I") ∈ zTb := zin1 84 (by decide +kernel) rfl
theorem zw85 : (Jvm.Cond.fieldLink "SlowerForTheLate" (170 : Nat) "SlowerForTheLate$Plan" "seats" "[I") ∈ zTb := zin1 85 (by decide +kernel) rfl
theorem zw86 : (Jvm.Cond.fieldLink "SlowerForTheLate$Trip" (178 : Nat) "SlowerForTheLate$Plan" "seats" "[I") ∈ zTb := zin1 86 (by decide +kernel) rfl
theorem zw87 : (Jvm.Cond.fieldLink "SlowerForTheLate$Plan" (38 : Nat) "SlowerForTheLate$Plan" "cancelled" "[Z") ∈ zTb := zin1 87 (by decide +kernel) rfl
theorem zw88 : (Jvm.Cond.fieldLink "SlowerForTheLate" (173 : Nat) "SlowerForTheLate$Plan" "cancelled" "[Z") ∈ zTb := zin1 88 (by decide +kernel) rfl
theorem zw89 : (Jvm.Cond.fieldLink "SlowerForTheLate$Trip" (181 : Nat) "SlowerForTheLate$Plan" "cancelled" "[Z") ∈ zTb := zin1 89 (by decide +kernel) rfl
theorem zw90 : (Jvm.Cond.fieldLink "SlowerForTheLate$Plan" (42 : Nat) "SlowerForTheLate$Plan" "runs" "[I") ∈ zTb := zin1 90 (by decide +kernel) rfl
theorem zw91 : (Jvm.Cond.fieldLink "SlowerForTheLate" (186 : Nat) "SlowerForTheLate$Plan" "runs" "[I") ∈ zTb := zin1 91 (by decide +kernel) rfl
theorem zw92 : (Jvm.Cond.fieldLink "SlowerForTheLate$Plan" (45 : Nat) "SlowerForTheLate$Plan" "rules" "[I") ∈ zTb := zin1 92 (by decide +kernel) rfl
theorem zw93 : (Jvm.Cond.fieldLink "SlowerForTheLate$Trip" (124 : Nat) "SlowerForTheLate$Plan" "rules" "[I") ∈ zTb := zin1 93 (by decide +kernel) rfl
theorem zw94 : (Jvm.Cond.fieldLink "SlowerForTheLate" (192 : Nat) "SlowerForTheLate$Plan" "rules" "[I") ∈ zTb := zin1 94 (by decide +kernel) rfl
theorem zw118 : (Jvm.Cond.classLink "SlowerForTheLate" (26 : Nat) "SlowerForTheLate$Trip") ∈ zTb := zin1 118 (by decide +kernel) rfl
theorem zw119 : (Jvm.Cond.instantiable "SlowerForTheLate$Trip" (19 : Nat)) ∈ zTb := zin1 119 (by decide +kernel) rfl
theorem zw121 : (Jvm.Cond.instanceMethod ({ cls := "SlowerForTheLate$Trip", name := "<init>", desc := "()V" } : Jvm.MethodName)) ∈ zTb := zin1 121 (by decide +kernel) rfl
theorem zw122 : (Jvm.Cond.code ({ cls := "SlowerForTheLate$Trip", name := "<init>", desc := "()V" } : Jvm.MethodName) prog_11_method_1_code (1 : Nat) (Option.none : Option Jvm.ClassFile.FieldType)) ∈ zTb := zin1 122 (by decide +kernel) rfl
theorem zw123 : (Jvm.Cond.methodLink "SlowerForTheLate$Trip" (3 : Nat) ({ cls := "java/lang/Object", name := "<init>", desc := "()V" } : Jvm.MethodName)) ∈ zTb := zin1 123 (by decide +kernel) rfl
theorem zw124 : (Jvm.Cond.fieldLink "SlowerForTheLate$Trip" (9 : Nat) "SlowerForTheLate$Trip" "comesAt" "[I") ∈ zTb := zin1 124 (by decide +kernel) rfl
theorem zw125 : (Jvm.Cond.fieldLink "SlowerForTheLate" (363 : Nat) "SlowerForTheLate$Trip" "comesAt" "[I") ∈ zTb := zin1 125 (by decide +kernel) rfl
theorem zw126 : (Jvm.Cond.fieldLink "SlowerForTheLate$Trip" (15 : Nat) "SlowerForTheLate$Trip" "turn" "[I") ∈ zTb := zin1 126 (by decide +kernel) rfl
theorem zw127 : (Jvm.Cond.fieldLink "SlowerForTheLate$Trip" (18 : Nat) "SlowerForTheLate$Trip" "mayBeLate" "[I") ∈ zTb := zin1 127 (by decide +kernel) rfl
theorem zw128 : (Jvm.Cond.fieldLink "SlowerForTheLate$Trip" (21 : Nat) "SlowerForTheLate$Trip" "places" "[I") ∈ zTb := zin1 128 (by decide +kernel) rfl
theorem zw129 : (Jvm.Cond.fieldLink "SlowerForTheLate$Trip" (24 : Nat) "SlowerForTheLate$Trip" "offAt" "[I") ∈ zTb := zin1 129 (by decide +kernel) rfl
theorem zw130 : (Jvm.Cond.fieldLink "SlowerForTheLate$Trip" (27 : Nat) "SlowerForTheLate$Trip" "asked" "[I") ∈ zTb := zin1 130 (by decide +kernel) rfl
theorem zw131 : (Jvm.Cond.fieldLink "SlowerForTheLate$Trip" (30 : Nat) "SlowerForTheLate$Trip" "people" "I") ∈ zTb := zin1 131 (by decide +kernel) rfl
theorem zw132 : (Jvm.Cond.fieldLink "SlowerForTheLate$Trip" (34 : Nat) "SlowerForTheLate$Trip" "ticket" "[I") ∈ zTb := zin1 132 (by decide +kernel) rfl
theorem zw133 : (Jvm.Cond.fieldLink "SlowerForTheLate" (257 : Nat) "SlowerForTheLate$Trip" "ticket" "[I") ∈ zTb := zin1 133 (by decide +kernel) rfl
theorem zw134 : (Jvm.Cond.fieldLink "SlowerForTheLate$Trip" (37 : Nat) "SlowerForTheLate$Trip" "onAt" "[I") ∈ zTb := zin1 134 (by decide +kernel) rfl
theorem zw135 : (Jvm.Cond.fieldLink "SlowerForTheLate" (260 : Nat) "SlowerForTheLate$Trip" "onAt" "[I") ∈ zTb := zin1 135 (by decide +kernel) rfl
theorem zw136 : (Jvm.Cond.fieldLink "SlowerForTheLate$Trip" (40 : Nat) "SlowerForTheLate$Trip" "arrivedAt" "[I") ∈ zTb := zin1 136 (by decide +kernel) rfl
theorem zw137 : (Jvm.Cond.fieldLink "SlowerForTheLate" (268 : Nat) "SlowerForTheLate$Trip" "arrivedAt" "[I") ∈ zTb := zin1 137 (by decide +kernel) rfl
theorem zw138 : (Jvm.Cond.fieldLink "SlowerForTheLate$Trip" (43 : Nat) "SlowerForTheLate$Trip" "pushed" "[I") ∈ zTb := zin1 138 (by decide +kernel) rfl
theorem zw139 : (Jvm.Cond.fieldLink "SlowerForTheLate" (205 : Nat) "SlowerForTheLate$Trip" "pushed" "[I") ∈ zTb := zin1 139 (by decide +kernel) rfl
theorem zw140 : (Jvm.Cond.fieldLink "SlowerForTheLate$Trip" (46 : Nat) "SlowerForTheLate$Trip" "missed" "[I") ∈ zTb := zin1 140 (by decide +kernel) rfl
theorem zw141 : (Jvm.Cond.fieldLink "SlowerForTheLate$Trip" (49 : Nat) "SlowerForTheLate$Trip" "minuteAt" "[I") ∈ zTb := zin1 141 (by decide +kernel) rfl
theorem zw142 : (Jvm.Cond.fieldLink "SlowerForTheLate" (212 : Nat) "SlowerForTheLate$Trip" "minuteAt" "[I") ∈ zTb := zin1 142 (by decide +kernel) rfl
theorem zw143 : (Jvm.Cond.fieldLink "SlowerForTheLate$Trip" (52 : Nat) "SlowerForTheLate$Trip" "aboardFrom" "[I") ∈ zTb := zin1 143 (by decide +kernel) rfl
theorem zw144 : (Jvm.Cond.fieldLink "SlowerForTheLate" (234 : Nat) "SlowerForTheLate$Trip" "aboardFrom" "[I") ∈ zTb := zin1 144 (by decide +kernel) rfl
theorem zw145 : (Jvm.Cond.fieldLink "SlowerForTheLate$Trip" (55 : Nat) "SlowerForTheLate$Trip" "mostTaken" "[I") ∈ zTb := zin1 145 (by decide +kernel) rfl
theorem zw146 : (Jvm.Cond.fieldLink "SlowerForTheLate" (237 : Nat) "SlowerForTheLate$Trip" "mostTaken" "[I") ∈ zTb := zin1 146 (by decide +kernel) rfl
theorem zw147 : (Jvm.Cond.fieldLink "SlowerForTheLate$Trip" (58 : Nat) "SlowerForTheLate$Trip" "aboardBits" "[I") ∈ zTb := zin1 147 (by decide +kernel) rfl
theorem zw148 : (Jvm.Cond.fieldLink "SlowerForTheLate$Trip" (61 : Nat) "SlowerForTheLate$Trip" "taken" "[I") ∈ zTb := zin1 148 (by decide +kernel) rfl
theorem zw149 : (Jvm.Cond.fieldLink "SlowerForTheLate$Trip" (64 : Nat) "SlowerForTheLate$Trip" "queue" "[I") ∈ zTb := zin1 149 (by decide +kernel) rfl
theorem zw150 : (Jvm.Cond.fieldLink "SlowerForTheLate$Trip" (67 : Nat) "SlowerForTheLate$Trip" "running" "I") ∈ zTb := zin1 150 (by decide +kernel) rfl
theorem zw190 : (Jvm.Cond.classLink "SlowerForTheLate" (33 : Nat) "SlowerForTheLate$Walker") ∈ zTb := zin1 190 (by decide +kernel) rfl
theorem zw191 : (Jvm.Cond.classLink "SlowerForTheLate" (39 : Nat) "SlowerForTheLate$Row") ∈ zTb := zin1 191 (by decide +kernel) rfl
theorem zw193 : (Jvm.Cond.fieldLink "SlowerForTheLate" (10 : Nat) "SlowerForTheLate" "now" "LSlowerForTheLate$Plan;") ∈ zTb := zin1 193 (by decide +kernel) rfl
theorem zw194 : (Jvm.Cond.fieldLink "SlowerForTheLate" (16 : Nat) "SlowerForTheLate" "trial" "LSlowerForTheLate$Plan;") ∈ zTb := zin1 194 (by decide +kernel) rfl
theorem zw195 : (Jvm.Cond.fieldLink "SlowerForTheLate" (19 : Nat) "SlowerForTheLate" "picture" "LSlowerForTheLate$Plan;") ∈ zTb := zin1 195 (by decide +kernel) rfl
theorem zw196 : (Jvm.Cond.fieldLink "SlowerForTheLate" (22 : Nat) "SlowerForTheLate" "pictured" "Z") ∈ zTb := zin1 196 (by decide +kernel) rfl
theorem zw197 : (Jvm.Cond.fieldLink "SlowerForTheLate" (29 : Nat) "SlowerForTheLate" "trip" "LSlowerForTheLate$Trip;") ∈ zTb := zin1 197 (by decide +kernel) rfl
theorem zw198 : (Jvm.Cond.fieldLink "SlowerForTheLate" (35 : Nat) "SlowerForTheLate" "keptOnes" "[LSlowerForTheLate$Walker;") ∈ zTb := zin1 198 (by decide +kernel) rfl
theorem zw199 : (Jvm.Cond.fieldLink "SlowerForTheLate" (41 : Nat) "SlowerForTheLate" "keptRows" "[LSlowerForTheLate$Row;") ∈ zTb := zin1 199 (by decide +kernel) rfl
theorem zw200 : (Jvm.Cond.fieldLink "SlowerForTheLate" (45 : Nat) "SlowerForTheLate" "oneArrives" "[I") ∈ zTb := zin1 200 (by decide +kernel) rfl
theorem zw201 : (Jvm.Cond.fieldLink "SlowerForTheLate" (49 : Nat) "SlowerForTheLate" "otherArrives" "[I") ∈ zTb := zin1 201 (by decide +kernel) rfl
theorem zw224 : (Jvm.Cond.code ({ cls := "SlowerForTheLate", name := "day", desc := "(I)I" } : Jvm.MethodName) prog_1_method_2_code (7 : Nat) (Option.some Jvm.ClassFile.FieldType.int)) ∈ zTb := zin1 224 (by decide +kernel) rfl
theorem zw225 : (Jvm.Cond.methodLink "SlowerForTheLate" (52 : Nat) ({ cls := "SlowerForTheLate", name := "refusalOfRow", desc := "(I)I" } : Jvm.MethodName)) ∈ zTb := zin1 225 (by decide +kernel) rfl
theorem zw227 : (Jvm.Cond.instanceMethod ({ cls := "SlowerForTheLate", name := "refusalOfRow", desc := "(I)I" } : Jvm.MethodName)) ∈ zTb := zin1 227 (by decide +kernel) rfl
theorem zw228 : (Jvm.Cond.code ({ cls := "SlowerForTheLate", name := "refusalOfRow", desc := "(I)I" } : Jvm.MethodName) prog_1_method_54_code (2 : Nat) (Option.some Jvm.ClassFile.FieldType.int)) ∈ zTb := zin1 228 (by decide +kernel) rfl
theorem zw229 : (Jvm.Cond.methodLink "SlowerForTheLate" (128 : Nat) ({ cls := "SlowerForTheLate", name := "isShelf", desc := "(I)Z" } : Jvm.MethodName)) ∈ zTb := zin1 229 (by decide +kernel) rfl
theorem zw230 : (Jvm.Cond.static ({ cls := "SlowerForTheLate", name := "isShelf", desc := "(I)Z" } : Jvm.MethodName)) ∈ zTb := zin1 230 (by decide +kernel) rfl
theorem zw231 : (Jvm.Cond.code ({ cls := "SlowerForTheLate", name := "isShelf", desc := "(I)Z" } : Jvm.MethodName) prog_1_method_52_code (1 : Nat) (Option.some Jvm.ClassFile.FieldType.boolean)) ∈ zTb := zin1 231 (by decide +kernel) rfl
theorem zw232 : (Jvm.Cond.methodLink "SlowerForTheLate" (137 : Nat) ({ cls := "SlowerForTheLate", name := "isEmpty", desc := "(I)Z" } : Jvm.MethodName)) ∈ zTb := zin1 232 (by decide +kernel) rfl
theorem zw234 : (Jvm.Cond.instanceMethod ({ cls := "SlowerForTheLate", name := "isEmpty", desc := "(I)Z" } : Jvm.MethodName)) ∈ zTb := zin1 234 (by decide +kernel) rfl
theorem zw235 : (Jvm.Cond.code ({ cls := "SlowerForTheLate", name := "isEmpty", desc := "(I)Z" } : Jvm.MethodName) prog_1_method_53_code (2 : Nat) (Option.some Jvm.ClassFile.FieldType.boolean)) ∈ zTb := zin1 235 (by decide +kernel) rfl
theorem zw236 : (Jvm.Cond.methodLink "SlowerForTheLate" (60 : Nat) ({ cls := "SlowerForTheLate", name := "firstBadByte", desc := "(LSlowerForTheLate$Row;)I" } : Jvm.MethodName)) ∈ zTb := zin1 236 (by decide +kernel) rfl
theorem zw237 : (Jvm.Cond.static ({ cls := "SlowerForTheLate", name := "firstBadByte", desc := "(LSlowerForTheLate$Row;)I" } : Jvm.MethodName)) ∈ zTb := zin1 237 (by decide +kernel) rfl
theorem zw238 : (Jvm.Cond.code ({ cls := "SlowerForTheLate", name := "firstBadByte", desc := "(LSlowerForTheLate$Row;)I" } : Jvm.MethodName) prog_1_method_58_code (4 : Nat) (Option.some Jvm.ClassFile.FieldType.int)) ∈ zTb := zin1 238 (by decide +kernel) rfl
theorem zw239 : (Jvm.Cond.methodLink "SlowerForTheLate" (76 : Nat) ({ cls := "SlowerForTheLate$Row", name := "at", desc := "(I)I" } : Jvm.MethodName)) ∈ zTb := zin1 239 (by decide +kernel) rfl
theorem zw240 : (Jvm.Cond.instanceMethod ({ cls := "SlowerForTheLate$Row", name := "at", desc := "(I)I" } : Jvm.MethodName)) ∈ zTb := zin2 0 (by decide +kernel) rfl
theorem zw241 : (Jvm.Cond.selects "SlowerForTheLate$Row" ({ cls := "SlowerForTheLate$Row", name := "at", desc := "(I)I" } : Jvm.MethodName) ({ cls := "SlowerForTheLate$Row", name := "at", desc := "(I)I" } : Jvm.MethodName)) ∈ zTb := zin2 1 (by decide +kernel) rfl
theorem zw242 : (Jvm.Cond.code ({ cls := "SlowerForTheLate$Row", name := "at", desc := "(I)I" } : Jvm.MethodName) prog_6_method_5_code (2 : Nat) (Option.some Jvm.ClassFile.FieldType.int)) ∈ zTb := zin2 2 (by decide +kernel) rfl
theorem zw243 : (Jvm.Cond.methodLink "SlowerForTheLate$Row" (17 : Nat) ({ cls := "SlowerForTheLate$Row", name := "has", desc := "(I)Z" } : Jvm.MethodName)) ∈ zTb := zin2 3 (by decide +kernel) rfl
theorem zw244 : (Jvm.Cond.instanceMethod ({ cls := "SlowerForTheLate$Row", name := "has", desc := "(I)Z" } : Jvm.MethodName)) ∈ zTb := zin2 4 (by decide +kernel) rfl
theorem zw245 : (Jvm.Cond.selects "SlowerForTheLate$Row" ({ cls := "SlowerForTheLate$Row", name := "has", desc := "(I)Z" } : Jvm.MethodName) ({ cls := "SlowerForTheLate$Row", name := "has", desc := "(I)Z" } : Jvm.MethodName)) ∈ zTb := zin2 5 (by decide +kernel) rfl
theorem zw246 : (Jvm.Cond.code ({ cls := "SlowerForTheLate$Row", name := "has", desc := "(I)Z" } : Jvm.MethodName) prog_6_method_3_code (2 : Nat) (Option.some Jvm.ClassFile.FieldType.boolean)) ∈ zTb := zin2 6 (by decide +kernel) rfl
theorem zw247 : (Jvm.Cond.methodLink "SlowerForTheLate" (79 : Nat) ({ cls := "SlowerForTheLate", name := "digitsBehind", desc := "(I)I" } : Jvm.MethodName)) ∈ zTb := zin2 7 (by decide +kernel) rfl
theorem zw248 : (Jvm.Cond.static ({ cls := "SlowerForTheLate", name := "digitsBehind", desc := "(I)I" } : Jvm.MethodName)) ∈ zTb := zin2 8 (by decide +kernel) rfl
theorem zw249 : (Jvm.Cond.code ({ cls := "SlowerForTheLate", name := "digitsBehind", desc := "(I)I" } : Jvm.MethodName) prog_1_method_57_code (1 : Nat) (Option.some Jvm.ClassFile.FieldType.int)) ∈ zTb := zin2 9 (by decide +kernel) rfl
theorem zw250 : (Jvm.Cond.methodLink "SlowerForTheLate" (68 : Nat) ({ cls := "SlowerForTheLate$Row", name := "size", desc := "()I" } : Jvm.MethodName)) ∈ zTb := zin2 10 (by decide +kernel) rfl
theorem zw251 : (Jvm.Cond.instanceMethod ({ cls := "SlowerForTheLate$Row", name := "size", desc := "()I" } : Jvm.MethodName)) ∈ zTb := zin2 11 (by decide +kernel) rfl
theorem zw252 : (Jvm.Cond.selects "SlowerForTheLate$Row" ({ cls := "SlowerForTheLate$Row", name := "size", desc := "()I" } : Jvm.MethodName) ({ cls := "SlowerForTheLate$Row", name := "size", desc := "()I" } : Jvm.MethodName)) ∈ zTb := zin2 12 (by decide +kernel) rfl
theorem zw253 : (Jvm.Cond.code ({ cls := "SlowerForTheLate$Row", name := "size", desc := "()I" } : Jvm.MethodName) prog_6_method_2_code (1 : Nat) (Option.some Jvm.ClassFile.FieldType.int)) ∈ zTb := zin2 13 (by decide +kernel) rfl
theorem zw254 : (Jvm.Cond.methodLink "SlowerForTheLate" (64 : Nat) ({ cls := "SlowerForTheLate$Plan", name := "become", desc := "(LSlowerForTheLate$Plan;)V" } : Jvm.MethodName)) ∈ zTb := zin2 14 (by decide +kernel) rfl
theorem zw255 : (Jvm.Cond.instanceMethod ({ cls := "SlowerForTheLate$Plan", name := "become", desc := "(LSlowerForTheLate$Plan;)V" } : Jvm.MethodName)) ∈ zTb := zin2 15 (by decide +kernel) rfl
theorem zw256 : (Jvm.Cond.selects "SlowerForTheLate$Plan" ({ cls := "SlowerForTheLate$Plan", name := "become", desc := "(LSlowerForTheLate$Plan;)V" } : Jvm.MethodName) ({ cls := "SlowerForTheLate$Plan", name := "become", desc := "(LSlowerForTheLate$Plan;)V" } : Jvm.MethodName)) ∈ zTb := zin2 16 (by decide +kernel) rfl
theorem zw257 : (Jvm.Cond.code ({ cls := "SlowerForTheLate$Plan", name := "become", desc := "(LSlowerForTheLate$Plan;)V" } : Jvm.MethodName) prog_5_method_19_code (3 : Nat) (Option.none : Option Jvm.ClassFile.FieldType)) ∈ zTb := zin2 17 (by decide +kernel) rfl
theorem zw258 : (Jvm.Cond.methodLink "SlowerForTheLate$Plan" (64 : Nat) ({ cls := "java/lang/System", name := "arraycopy", desc := "(Ljava/lang/Object;ILjava/lang/Object;II)V" } : Jvm.MethodName)) ∈ zTb := zin2 18 (by decide +kernel) rfl
theorem zw259 : (Jvm.Cond.static ({ cls := "java/lang/System", name := "arraycopy", desc := "(Ljava/lang/Object;ILjava/lang/Object;II)V" } : Jvm.MethodName)) ∈ zTb := zin2 19 (by decide +kernel) rfl
theorem zw260 : (Jvm.Cond.native ({ cls := "java/lang/System", name := "arraycopy", desc := "(Ljava/lang/Object;ILjava/lang/Object;II)V" } : Jvm.MethodName)) ∈ zTb := zin2 20 (by decide +kernel) rfl
theorem zw261 : (Jvm.Cond.methodLink "SlowerForTheLate" (72 : Nat) ({ cls := "SlowerForTheLate$Plan", name := "tell", desc := "(LSlowerForTheLate$Row;I)Z" } : Jvm.MethodName)) ∈ zTb := zin2 21 (by decide +kernel) rfl
theorem zw262 : (Jvm.Cond.instanceMethod ({ cls := "SlowerForTheLate$Plan", name := "tell", desc := "(LSlowerForTheLate$Row;I)Z" } : Jvm.MethodName)) ∈ zTb := zin2 22 (by decide +kernel) rfl
theorem zw263 : (Jvm.Cond.selects "SlowerForTheLate$Plan" ({ cls := "SlowerForTheLate$Plan", name := "tell", desc := "(LSlowerForTheLate$Row;I)Z" } : Jvm.MethodName) ({ cls := "SlowerForTheLate$Plan", name := "tell", desc := "(LSlowerForTheLate$Row;I)Z" } : Jvm.MethodName)) ∈ zTb := zin2 23 (by decide +kernel) rfl
theorem zw264 : (Jvm.Cond.code ({ cls := "SlowerForTheLate$Plan", name := "tell", desc := "(LSlowerForTheLate$Row;I)Z" } : Jvm.MethodName) prog_5_method_20_code (3 : Nat) (Option.some Jvm.ClassFile.FieldType.boolean)) ∈ zTb := zin2 24 (by decide +kernel) rfl
theorem zw265 : (Jvm.Cond.methodLink "SlowerForTheLate$Plan" (70 : Nat) ({ cls := "SlowerForTheLate$Row", name := "at", desc := "(I)I" } : Jvm.MethodName)) ∈ zTb := zin2 25 (by decide +kernel) rfl
theorem zw266 : (Jvm.Cond.methodLink "SlowerForTheLate$Plan" (76 : Nat) ({ cls := "SlowerForTheLate$Row", name := "number", desc := "(II)I" } : Jvm.MethodName)) ∈ zTb := zin2 26 (by decide +kernel) rfl
theorem zw267 : (Jvm.Cond.instanceMethod ({ cls := "SlowerForTheLate$Row", name := "number", desc := "(II)I" } : Jvm.MethodName)) ∈ zTb := zin2 27 (by decide +kernel) rfl
theorem zw268 : (Jvm.Cond.selects "SlowerForTheLate$Row" ({ cls := "SlowerForTheLate$Row", name := "number", desc := "(II)I" } : Jvm.MethodName) ({ cls := "SlowerForTheLate$Row", name := "number", desc := "(II)I" } : Jvm.MethodName)) ∈ zTb := zin2 28 (by decide +kernel) rfl
theorem zw269 : (Jvm.Cond.code ({ cls := "SlowerForTheLate$Row", name := "number", desc := "(II)I" } : Jvm.MethodName) prog_6_method_9_code (5 : Nat) (Option.some Jvm.ClassFile.FieldType.int)) ∈ zTb := zin2 29 (by decide +kernel) rfl
theorem zw270 : (Jvm.Cond.methodLink "SlowerForTheLate$Row" (25 : Nat) ({ cls := "SlowerForTheLate$Row", name := "at", desc := "(I)I" } : Jvm.MethodName)) ∈ zTb := zin2 30 (by decide +kernel) rfl
theorem zw271 : (Jvm.Cond.methodLink "SlowerForTheLate$Plan" (80 : Nat) ({ cls := "SlowerForTheLate$Plan", name := "tellRun", desc := "(II)Z" } : Jvm.MethodName)) ∈ zTb := zin2 31 (by decide +kernel) rfl
theorem zw273 : (Jvm.Cond.instanceMethod ({ cls := "SlowerForTheLate$Plan", name := "tellRun", desc := "(II)Z" } : Jvm.MethodName)) ∈ zTb := zin2 33 (by decide +kernel) rfl
theorem zw274 : (Jvm.Cond.code ({ cls := "SlowerForTheLate$Plan", name := "tellRun", desc := "(II)Z" } : Jvm.MethodName) prog_5_method_21_code (3 : Nat) (Option.some Jvm.ClassFile.FieldType.boolean)) ∈ zTb := zin2 34 (by decide +kernel) rfl
theorem zw275 : (Jvm.Cond.methodLink "SlowerForTheLate$Plan" (97 : Nat) ({ cls := "SlowerForTheLate$Plan", name := "isPiece", desc := "(I)Z" } : Jvm.MethodName)) ∈ zTb := zin2 35 (by decide +kernel) rfl
theorem zw276 : (Jvm.Cond.static ({ cls := "SlowerForTheLate$Plan", name := "isPiece", desc := "(I)Z" } : Jvm.MethodName)) ∈ zTb := zin2 36 (by decide +kernel) rfl
theorem zw277 : (Jvm.Cond.code ({ cls := "SlowerForTheLate$Plan", name := "isPiece", desc := "(I)Z" } : Jvm.MethodName) prog_5_method_3_code (1 : Nat) (Option.some Jvm.ClassFile.FieldType.boolean)) ∈ zTb := zin2 37 (by decide +kernel) rfl
theorem zw278 : (Jvm.Cond.methodLink "SlowerForTheLate$Plan" (100 : Nat) ({ cls := "SlowerForTheLate$Plan", name := "isRun", desc := "(I)Z" } : Jvm.MethodName)) ∈ zTb := zin2 38 (by decide +kernel) rfl
theorem zw279 : (Jvm.Cond.static ({ cls := "SlowerForTheLate$Plan", name := "isRun", desc := "(I)Z" } : Jvm.MethodName)) ∈ zTb := zin2 39 (by decide +kernel) rfl
theorem zw280 : (Jvm.Cond.code ({ cls := "SlowerForTheLate$Plan", name := "isRun", desc := "(I)Z" } : Jvm.MethodName) prog_5_method_4_code (1 : Nat) (Option.some Jvm.ClassFile.FieldType.boolean)) ∈ zTb := zin2 40 (by decide +kernel) rfl
theorem zw281 : (Jvm.Cond.methodLink "SlowerForTheLate$Plan" (84 : Nat) ({ cls := "SlowerForTheLate$Plan", name := "tellTrain", desc := "(II)Z" } : Jvm.MethodName)) ∈ zTb := zin2 41 (by decide +kernel) rfl
theorem zw283 : (Jvm.Cond.instanceMethod ({ cls := "SlowerForTheLate$Plan", name := "tellTrain", desc := "(II)Z" } : Jvm.MethodName)) ∈ zTb := zin2 43 (by decide +kernel) rfl
theorem zw284 : (Jvm.Cond.code ({ cls := "SlowerForTheLate$Plan", name := "tellTrain", desc := "(II)Z" } : Jvm.MethodName) prog_5_method_22_code (3 : Nat) (Option.some Jvm.ClassFile.FieldType.boolean)) ∈ zTb := zin2 44 (by decide +kernel) rfl
theorem zw285 : (Jvm.Cond.methodLink "SlowerForTheLate$Plan" (103 : Nat) ({ cls := "SlowerForTheLate$Plan", name := "isStart", desc := "(I)Z" } : Jvm.MethodName)) ∈ zTb := zin2 45 (by decide +kernel) rfl
theorem zw286 : (Jvm.Cond.static ({ cls := "SlowerForTheLate$Plan", name := "isStart", desc := "(I)Z" } : Jvm.MethodName)) ∈ zTb := zin2 46 (by decide +kernel) rfl
theorem zw287 : (Jvm.Cond.code ({ cls := "SlowerForTheLate$Plan", name := "isStart", desc := "(I)Z" } : Jvm.MethodName) prog_5_method_5_code (1 : Nat) (Option.some Jvm.ClassFile.FieldType.boolean)) ∈ zTb := zin2 47 (by decide +kernel) rfl
theorem zw288 : (Jvm.Cond.methodLink "SlowerForTheLate$Plan" (106 : Nat) ({ cls := "SlowerForTheLate$Plan", name := "isSeats", desc := "(I)Z" } : Jvm.MethodName)) ∈ zTb := zin2 48 (by decide +kernel) rfl
theorem zw289 : (Jvm.Cond.static ({ cls := "SlowerForTheLate$Plan", name := "isSeats", desc := "(I)Z" } : Jvm.MethodName)) ∈ zTb := zin2 49 (by decide +kernel) rfl
theorem zw290 : (Jvm.Cond.code ({ cls := "SlowerForTheLate$Plan", name := "isSeats", desc := "(I)Z" } : Jvm.MethodName) prog_5_method_6_code (1 : Nat) (Option.some Jvm.ClassFile.FieldType.boolean)) ∈ zTb := zin2 50 (by decide +kernel) rfl
theorem zw291 : (Jvm.Cond.methodLink "SlowerForTheLate$Plan" (109 : Nat) ({ cls := "SlowerForTheLate$Plan", name := "addTrain", desc := "(II)Z" } : Jvm.MethodName)) ∈ zTb := zin2 51 (by decide +kernel) rfl
theorem zw292 : (Jvm.Cond.instanceMethod ({ cls := "SlowerForTheLate$Plan", name := "addTrain", desc := "(II)Z" } : Jvm.MethodName)) ∈ zTb := zin2 52 (by decide +kernel) rfl
theorem zw293 : (Jvm.Cond.selects "SlowerForTheLate$Plan" ({ cls := "SlowerForTheLate$Plan", name := "addTrain", desc := "(II)Z" } : Jvm.MethodName) ({ cls := "SlowerForTheLate$Plan", name := "addTrain", desc := "(II)Z" } : Jvm.MethodName)) ∈ zTb := zin2 53 (by decide +kernel) rfl
theorem zw294 : (Jvm.Cond.code ({ cls := "SlowerForTheLate$Plan", name := "addTrain", desc := "(II)Z" } : Jvm.MethodName) prog_5_method_14_code (3 : Nat) (Option.some Jvm.ClassFile.FieldType.boolean)) ∈ zTb := zin2 54 (by decide +kernel) rfl
theorem zw295 : (Jvm.Cond.methodLink "SlowerForTheLate$Plan" (87 : Nat) ({ cls := "SlowerForTheLate$Plan", name := "tellPerson", desc := "(LSlowerForTheLate$Row;I)Z" } : Jvm.MethodName)) ∈ zTb := zin2 55 (by decide +kernel) rfl
theorem zw297 : (Jvm.Cond.instanceMethod ({ cls := "SlowerForTheLate$Plan", name := "tellPerson", desc := "(LSlowerForTheLate$Row;I)Z" } : Jvm.MethodName)) ∈ zTb := zin2 57 (by decide +kernel) rfl
theorem zw298 : (Jvm.Cond.code ({ cls := "SlowerForTheLate$Plan", name := "tellPerson", desc := "(LSlowerForTheLate$Row;I)Z" } : Jvm.MethodName) prog_5_method_23_code (8 : Nat) (Option.some Jvm.ClassFile.FieldType.boolean)) ∈ zTb := zin2 58 (by decide +kernel) rfl
theorem zw299 : (Jvm.Cond.methodLink "SlowerForTheLate$Plan" (112 : Nat) ({ cls := "SlowerForTheLate$Walker", name := "isKind", desc := "(I)Z" } : Jvm.MethodName)) ∈ zTb := zin2 59 (by decide +kernel) rfl
theorem zw300 : (Jvm.Cond.static ({ cls := "SlowerForTheLate$Walker", name := "isKind", desc := "(I)Z" } : Jvm.MethodName)) ∈ zTb := zin2 60 (by decide +kernel) rfl
theorem zw301 : (Jvm.Cond.code ({ cls := "SlowerForTheLate$Walker", name := "isKind", desc := "(I)Z" } : Jvm.MethodName) prog_12_method_2_code (1 : Nat) (Option.some Jvm.ClassFile.FieldType.boolean)) ∈ zTb := zin2 61 (by decide +kernel) rfl
theorem zw302 : (Jvm.Cond.methodLink "SlowerForTheLate$Plan" (115 : Nat) ({ cls := "SlowerForTheLate$Walker", name := "isFigure", desc := "(I)Z" } : Jvm.MethodName)) ∈ zTb := zin2 62 (by decide +kernel) rfl
theorem zw303 : (Jvm.Cond.static ({ cls := "SlowerForTheLate$Walker", name := "isFigure", desc := "(I)Z" } : Jvm.MethodName)) ∈ zTb := zin2 63 (by decide +kernel) rfl
theorem zw304 : (Jvm.Cond.code ({ cls := "SlowerForTheLate$Walker", name := "isFigure", desc := "(I)Z" } : Jvm.MethodName) prog_12_method_3_code (1 : Nat) (Option.some Jvm.ClassFile.FieldType.boolean)) ∈ zTb := zin2 64 (by decide +kernel) rfl
theorem zw305 : (Jvm.Cond.methodLink "SlowerForTheLate$Plan" (118 : Nat) ({ cls := "SlowerForTheLate$Plan", name := "isBase", desc := "(I)Z" } : Jvm.MethodName)) ∈ zTb := zin2 65 (by decide +kernel) rfl
theorem zw306 : (Jvm.Cond.static ({ cls := "SlowerForTheLate$Plan", name := "isBase", desc := "(I)Z" } : Jvm.MethodName)) ∈ zTb := zin2 66 (by decide +kernel) rfl
theorem zw307 : (Jvm.Cond.code ({ cls := "SlowerForTheLate$Plan", name := "isBase", desc := "(I)Z" } : Jvm.MethodName) prog_5_method_7_code (1 : Nat) (Option.some Jvm.ClassFile.FieldType.boolean)) ∈ zTb := zin2 67 (by decide +kernel) rfl
theorem zw308 : (Jvm.Cond.methodLink "SlowerForTheLate$Plan" (121 : Nat) ({ cls := "SlowerForTheLate$Plan", name := "isStop", desc := "(I)Z" } : Jvm.MethodName)) ∈ zTb := zin2 68 (by decide +kernel) rfl
theorem zw309 : (Jvm.Cond.static ({ cls := "SlowerForTheLate$Plan", name := "isStop", desc := "(I)Z" } : Jvm.MethodName)) ∈ zTb := zin2 69 (by decide +kernel) rfl
theorem zw310 : (Jvm.Cond.code ({ cls := "SlowerForTheLate$Plan", name := "isStop", desc := "(I)Z" } : Jvm.MethodName) prog_5_method_2_code (1 : Nat) (Option.some Jvm.ClassFile.FieldType.boolean)) ∈ zTb := zin2 70 (by decide +kernel) rfl
theorem zw311 : (Jvm.Cond.methodLink "SlowerForTheLate$Plan" (124 : Nat) ({ cls := "SlowerForTheLate$Walker", name := "ofKind", desc := "(II)LSlowerForTheLate$Walker;" } : Jvm.MethodName)) ∈ zTb := zin2 71 (by decide +kernel) rfl
theorem zw312 : (Jvm.Cond.static ({ cls := "SlowerForTheLate$Walker", name := "ofKind", desc := "(II)LSlowerForTheLate$Walker;" } : Jvm.MethodName)) ∈ zTb := zin2 72 (by decide +kernel) rfl
theorem zw313 : (Jvm.Cond.code ({ cls := "SlowerForTheLate$Walker", name := "ofKind", desc := "(II)LSlowerForTheLate$Walker;" } : Jvm.MethodName) prog_12_method_4_code (2 : Nat) (Option.some (Jvm.ClassFile.FieldType.object "SlowerForTheLate$Walker"))) ∈ zTb := zin2 73 (by decide +kernel) rfl
theorem zw314 : (Jvm.Cond.classLink "SlowerForTheLate$Walker" (16 : Nat) "SlowerForTheLate$Runner") ∈ zTb := zin2 74 (by decide +kernel) rfl
theorem zw315 : (Jvm.Cond.instantiable "SlowerForTheLate$Runner" (2 : Nat)) ∈ zTb := zin2 75 (by decide +kernel) rfl
theorem zw316 : (Jvm.Cond.methodLink "SlowerForTheLate$Walker" (18 : Nat) ({ cls := "SlowerForTheLate$Runner", name := "<init>", desc := "(II)V" } : Jvm.MethodName)) ∈ zTb := zin2 76 (by decide +kernel) rfl
theorem zw317 : (Jvm.Cond.instanceMethod ({ cls := "SlowerForTheLate$Runner", name := "<init>", desc := "(II)V" } : Jvm.MethodName)) ∈ zTb := zin2 77 (by decide +kernel) rfl
theorem zw318 : (Jvm.Cond.code ({ cls := "SlowerForTheLate$Runner", name := "<init>", desc := "(II)V" } : Jvm.MethodName) prog_7_method_1_code (3 : Nat) (Option.none : Option Jvm.ClassFile.FieldType)) ∈ zTb := zin2 78 (by decide +kernel) rfl
theorem zw319 : (Jvm.Cond.methodLink "SlowerForTheLate$Runner" (1 : Nat) ({ cls := "SlowerForTheLate$Walker", name := "<init>", desc := "(II)V" } : Jvm.MethodName)) ∈ zTb := zin2 79 (by decide +kernel) rfl
theorem zw322 : (Jvm.Cond.superclass "SlowerForTheLate$Runner" "SlowerForTheLate$Walker") ∈ zTb := zin2 82 (by decide +kernel) rfl
theorem zw323 : (Jvm.Cond.classLink "SlowerForTheLate$Walker" (21 : Nat) "SlowerForTheLate$Tardy") ∈ zTb := zin2 83 (by decide +kernel) rfl
theorem zw324 : (Jvm.Cond.instantiable "SlowerForTheLate$Tardy" (2 : Nat)) ∈ zTb := zin2 84 (by decide +kernel) rfl
theorem zw325 : (Jvm.Cond.methodLink "SlowerForTheLate$Walker" (23 : Nat) ({ cls := "SlowerForTheLate$Tardy", name := "<init>", desc := "(II)V" } : Jvm.MethodName)) ∈ zTb := zin2 85 (by decide +kernel) rfl
theorem zw326 : (Jvm.Cond.instanceMethod ({ cls := "SlowerForTheLate$Tardy", name := "<init>", desc := "(II)V" } : Jvm.MethodName)) ∈ zTb := zin2 86 (by decide +kernel) rfl
theorem zw327 : (Jvm.Cond.code ({ cls := "SlowerForTheLate$Tardy", name := "<init>", desc := "(II)V" } : Jvm.MethodName) prog_10_method_1_code (3 : Nat) (Option.none : Option Jvm.ClassFile.FieldType)) ∈ zTb := zin2 87 (by decide +kernel) rfl
theorem zw328 : (Jvm.Cond.methodLink "SlowerForTheLate$Tardy" (1 : Nat) ({ cls := "SlowerForTheLate$Walker", name := "<init>", desc := "(II)V" } : Jvm.MethodName)) ∈ zTb := zin2 88 (by decide +kernel) rfl
theorem zw331 : (Jvm.Cond.superclass "SlowerForTheLate$Tardy" "SlowerForTheLate$Walker") ∈ zTb := zin2 91 (by decide +kernel) rfl
theorem zw332 : (Jvm.Cond.classLink "SlowerForTheLate$Walker" (24 : Nat) "SlowerForTheLate$Lover") ∈ zTb := zin2 92 (by decide +kernel) rfl
theorem zw333 : (Jvm.Cond.instantiable "SlowerForTheLate$Lover" (2 : Nat)) ∈ zTb := zin2 93 (by decide +kernel) rfl
theorem zw334 : (Jvm.Cond.methodLink "SlowerForTheLate$Walker" (26 : Nat) ({ cls := "SlowerForTheLate$Lover", name := "<init>", desc := "(II)V" } : Jvm.MethodName)) ∈ zTb := zin2 94 (by decide +kernel) rfl
theorem zw335 : (Jvm.Cond.instanceMethod ({ cls := "SlowerForTheLate$Lover", name := "<init>", desc := "(II)V" } : Jvm.MethodName)) ∈ zTb := zin2 95 (by decide +kernel) rfl
theorem zw336 : (Jvm.Cond.code ({ cls := "SlowerForTheLate$Lover", name := "<init>", desc := "(II)V" } : Jvm.MethodName) prog_3_method_1_code (3 : Nat) (Option.none : Option Jvm.ClassFile.FieldType)) ∈ zTb := zin2 96 (by decide +kernel) rfl
theorem zw337 : (Jvm.Cond.methodLink "SlowerForTheLate$Lover" (1 : Nat) ({ cls := "SlowerForTheLate$Tardy", name := "<init>", desc := "(II)V" } : Jvm.MethodName)) ∈ zTb := zin2 97 (by decide +kernel) rfl
theorem zw340 : (Jvm.Cond.superclass "SlowerForTheLate$Lover" "SlowerForTheLate$Tardy") ∈ zTb := zin2 100 (by decide +kernel) rfl
theorem zw341 : (Jvm.Cond.classLink "SlowerForTheLate$Walker" (27 : Nat) "SlowerForTheLate$Staff") ∈ zTb := zin2 101 (by decide +kernel) rfl
theorem zw342 : (Jvm.Cond.instantiable "SlowerForTheLate$Staff" (2 : Nat)) ∈ zTb := zin2 102 (by decide +kernel) rfl
theorem zw343 : (Jvm.Cond.methodLink "SlowerForTheLate$Walker" (29 : Nat) ({ cls := "SlowerForTheLate$Staff", name := "<init>", desc := "(II)V" } : Jvm.MethodName)) ∈ zTb := zin2 103 (by decide +kernel) rfl
theorem zw344 : (Jvm.Cond.instanceMethod ({ cls := "SlowerForTheLate$Staff", name := "<init>", desc := "(II)V" } : Jvm.MethodName)) ∈ zTb := zin2 104 (by decide +kernel) rfl
theorem zw345 : (Jvm.Cond.code ({ cls := "SlowerForTheLate$Staff", name := "<init>", desc := "(II)V" } : Jvm.MethodName) prog_9_method_1_code (3 : Nat) (Option.none : Option Jvm.ClassFile.FieldType)) ∈ zTb := zin2 105 (by decide +kernel) rfl
theorem zw346 : (Jvm.Cond.methodLink "SlowerForTheLate$Staff" (1 : Nat) ({ cls := "SlowerForTheLate$Runner", name := "<init>", desc := "(II)V" } : Jvm.MethodName)) ∈ zTb := zin2 106 (by decide +kernel) rfl
theorem zw349 : (Jvm.Cond.superclass "SlowerForTheLate$Staff" "SlowerForTheLate$Runner") ∈ zTb := zin2 109 (by decide +kernel) rfl
theorem zw350 : (Jvm.Cond.classLink "SlowerForTheLate$Walker" (30 : Nat) "SlowerForTheLate$Sleeper") ∈ zTb := zin2 110 (by decide +kernel) rfl
theorem zw351 : (Jvm.Cond.instantiable "SlowerForTheLate$Sleeper" (2 : Nat)) ∈ zTb := zin2 111 (by decide +kernel) rfl
theorem zw352 : (Jvm.Cond.methodLink "SlowerForTheLate$Walker" (32 : Nat) ({ cls := "SlowerForTheLate$Sleeper", name := "<init>", desc := "(II)V" } : Jvm.MethodName)) ∈ zTb := zin2 112 (by decide +kernel) rfl
theorem zw353 : (Jvm.Cond.instanceMethod ({ cls := "SlowerForTheLate$Sleeper", name := "<init>", desc := "(II)V" } : Jvm.MethodName)) ∈ zTb := zin2 113 (by decide +kernel) rfl
theorem zw354 : (Jvm.Cond.code ({ cls := "SlowerForTheLate$Sleeper", name := "<init>", desc := "(II)V" } : Jvm.MethodName) prog_8_method_1_code (3 : Nat) (Option.none : Option Jvm.ClassFile.FieldType)) ∈ zTb := zin2 114 (by decide +kernel) rfl
theorem zw355 : (Jvm.Cond.methodLink "SlowerForTheLate$Sleeper" (1 : Nat) ({ cls := "SlowerForTheLate$Walker", name := "<init>", desc := "(II)V" } : Jvm.MethodName)) ∈ zTb := zin2 115 (by decide +kernel) rfl
theorem zw358 : (Jvm.Cond.superclass "SlowerForTheLate$Sleeper" "SlowerForTheLate$Walker") ∈ zTb := zin2 118 (by decide +kernel) rfl
theorem zw359 : (Jvm.Cond.classLink "SlowerForTheLate$Walker" (33 : Nat) "SlowerForTheLate$Aimer") ∈ zTb := zin2 119 (by decide +kernel) rfl
theorem zw360 : (Jvm.Cond.instantiable "SlowerForTheLate$Aimer" (2 : Nat)) ∈ zTb := zin2 120 (by decide +kernel) rfl
theorem zw361 : (Jvm.Cond.methodLink "SlowerForTheLate$Walker" (35 : Nat) ({ cls := "SlowerForTheLate$Aimer", name := "<init>", desc := "(II)V" } : Jvm.MethodName)) ∈ zTb := zin2 121 (by decide +kernel) rfl
theorem zw362 : (Jvm.Cond.instanceMethod ({ cls := "SlowerForTheLate$Aimer", name := "<init>", desc := "(II)V" } : Jvm.MethodName)) ∈ zTb := zin2 122 (by decide +kernel) rfl
theorem zw363 : (Jvm.Cond.code ({ cls := "SlowerForTheLate$Aimer", name := "<init>", desc := "(II)V" } : Jvm.MethodName) prog_2_method_1_code (3 : Nat) (Option.none : Option Jvm.ClassFile.FieldType)) ∈ zTb := zin2 123 (by decide +kernel) rfl
theorem zw364 : (Jvm.Cond.methodLink "SlowerForTheLate$Aimer" (1 : Nat) ({ cls := "SlowerForTheLate$Tardy", name := "<init>", desc := "(II)V" } : Jvm.MethodName)) ∈ zTb := zin2 124 (by decide +kernel) rfl
theorem zw367 : (Jvm.Cond.superclass "SlowerForTheLate$Aimer" "SlowerForTheLate$Tardy") ∈ zTb := zin2 127 (by decide +kernel) rfl
theorem zw368 : (Jvm.Cond.classLink "SlowerForTheLate$Walker" (36 : Nat) "SlowerForTheLate$Parent") ∈ zTb := zin2 128 (by decide +kernel) rfl
theorem zw369 : (Jvm.Cond.instantiable "SlowerForTheLate$Parent" (2 : Nat)) ∈ zTb := zin2 129 (by decide +kernel) rfl
theorem zw370 : (Jvm.Cond.methodLink "SlowerForTheLate$Walker" (38 : Nat) ({ cls := "SlowerForTheLate$Parent", name := "<init>", desc := "(II)V" } : Jvm.MethodName)) ∈ zTb := zin2 130 (by decide +kernel) rfl
theorem zw371 : (Jvm.Cond.instanceMethod ({ cls := "SlowerForTheLate$Parent", name := "<init>", desc := "(II)V" } : Jvm.MethodName)) ∈ zTb := zin2 131 (by decide +kernel) rfl
theorem zw372 : (Jvm.Cond.code ({ cls := "SlowerForTheLate$Parent", name := "<init>", desc := "(II)V" } : Jvm.MethodName) prog_4_method_1_code (3 : Nat) (Option.none : Option Jvm.ClassFile.FieldType)) ∈ zTb := zin2 132 (by decide +kernel) rfl
theorem zw373 : (Jvm.Cond.methodLink "SlowerForTheLate$Parent" (1 : Nat) ({ cls := "SlowerForTheLate$Walker", name := "<init>", desc := "(II)V" } : Jvm.MethodName)) ∈ zTb := zin2 133 (by decide +kernel) rfl
theorem zw376 : (Jvm.Cond.superclass "SlowerForTheLate$Parent" "SlowerForTheLate$Walker") ∈ zTb := zin2 136 (by decide +kernel) rfl
theorem zw377 : (Jvm.Cond.classLink "SlowerForTheLate$Walker" (8 : Nat) "SlowerForTheLate$Walker") ∈ zTb := zin2 137 (by decide +kernel) rfl
theorem zw378 : (Jvm.Cond.methodLink "SlowerForTheLate$Walker" (39 : Nat) ({ cls := "SlowerForTheLate$Walker", name := "<init>", desc := "(II)V" } : Jvm.MethodName)) ∈ zTb := zin2 138 (by decide +kernel) rfl
theorem zw379 : (Jvm.Cond.methodLink "SlowerForTheLate$Plan" (128 : Nat) ({ cls := "SlowerForTheLate$Plan", name := "addPerson", desc := "(LSlowerForTheLate$Walker;III)Z" } : Jvm.MethodName)) ∈ zTb := zin2 139 (by decide +kernel) rfl
theorem zw380 : (Jvm.Cond.instanceMethod ({ cls := "SlowerForTheLate$Plan", name := "addPerson", desc := "(LSlowerForTheLate$Walker;III)Z" } : Jvm.MethodName)) ∈ zTb := zin2 140 (by decide +kernel) rfl
theorem zw381 : (Jvm.Cond.selects "SlowerForTheLate$Plan" ({ cls := "SlowerForTheLate$Plan", name := "addPerson", desc := "(LSlowerForTheLate$Walker;III)Z" } : Jvm.MethodName) ({ cls := "SlowerForTheLate$Plan", name := "addPerson", desc := "(LSlowerForTheLate$Walker;III)Z" } : Jvm.MethodName)) ∈ zTb := zin2 141 (by decide +kernel) rfl
theorem zw382 : (Jvm.Cond.code ({ cls := "SlowerForTheLate$Plan", name := "addPerson", desc := "(LSlowerForTheLate$Walker;III)Z" } : Jvm.MethodName) prog_5_method_12_code (5 : Nat) (Option.some Jvm.ClassFile.FieldType.boolean)) ∈ zTb := zin2 142 (by decide +kernel) rfl
theorem zw383 : (Jvm.Cond.methodLink "SlowerForTheLate$Plan" (91 : Nat) ({ cls := "SlowerForTheLate$Plan", name := "tellRule", desc := "(II)Z" } : Jvm.MethodName)) ∈ zTb := zin2 143 (by decide +kernel) rfl
theorem zw385 : (Jvm.Cond.instanceMethod ({ cls := "SlowerForTheLate$Plan", name := "tellRule", desc := "(II)Z" } : Jvm.MethodName)) ∈ zTb := zin2 145 (by decide +kernel) rfl
theorem zw386 : (Jvm.Cond.code ({ cls := "SlowerForTheLate$Plan", name := "tellRule", desc := "(II)Z" } : Jvm.MethodName) prog_5_method_24_code (3 : Nat) (Option.some Jvm.ClassFile.FieldType.boolean)) ∈ zTb := zin2 146 (by decide +kernel) rfl
theorem zw387 : (Jvm.Cond.methodLink "SlowerForTheLate$Plan" (132 : Nat) ({ cls := "SlowerForTheLate$Plan", name := "isRule", desc := "(II)Z" } : Jvm.MethodName)) ∈ zTb := zin2 147 (by decide +kernel) rfl
theorem zw388 : (Jvm.Cond.static ({ cls := "SlowerForTheLate$Plan", name := "isRule", desc := "(II)Z" } : Jvm.MethodName)) ∈ zTb := zin2 148 (by decide +kernel) rfl
theorem zw389 : (Jvm.Cond.code ({ cls := "SlowerForTheLate$Plan", name := "isRule", desc := "(II)Z" } : Jvm.MethodName) prog_5_method_8_code (2 : Nat) (Option.some Jvm.ClassFile.FieldType.boolean)) ∈ zTb := zin2 149 (by decide +kernel) rfl
theorem zw390 : (Jvm.Cond.fieldLink "SlowerForTheLate$Plan" (51 : Nat) "SlowerForTheLate$Plan" "LEAST_RULES" "[I") ∈ zTb := zin2 150 (by decide +kernel) rfl
theorem zw392 : (Jvm.Cond.fieldLink "SlowerForTheLate$Plan" (54 : Nat) "SlowerForTheLate$Plan" "MOST_RULES" "[I") ∈ zTb := zin2 152 (by decide +kernel) rfl
theorem zw394 : (Jvm.Cond.methodLink "SlowerForTheLate$Plan" (94 : Nat) ({ cls := "SlowerForTheLate$Plan", name := "tellCancelled", desc := "(I)Z" } : Jvm.MethodName)) ∈ zTb := zin2 154 (by decide +kernel) rfl
theorem zw396 : (Jvm.Cond.instanceMethod ({ cls := "SlowerForTheLate$Plan", name := "tellCancelled", desc := "(I)Z" } : Jvm.MethodName)) ∈ zTb := zin2 156 (by decide +kernel) rfl
theorem zw397 : (Jvm.Cond.code ({ cls := "SlowerForTheLate$Plan", name := "tellCancelled", desc := "(I)Z" } : Jvm.MethodName) prog_5_method_25_code (2 : Nat) (Option.some Jvm.ClassFile.FieldType.boolean)) ∈ zTb := zin2 157 (by decide +kernel) rfl
theorem zw398 : (Jvm.Cond.methodLink "SlowerForTheLate$Plan" (61 : Nat) ({ cls := "SlowerForTheLate$Plan", name := "isTrain", desc := "(I)Z" } : Jvm.MethodName)) ∈ zTb := zin2 158 (by decide +kernel) rfl
theorem zw399 : (Jvm.Cond.instanceMethod ({ cls := "SlowerForTheLate$Plan", name := "isTrain", desc := "(I)Z" } : Jvm.MethodName)) ∈ zTb := zin2 159 (by decide +kernel) rfl
theorem zw400 : (Jvm.Cond.selects "SlowerForTheLate$Plan" ({ cls := "SlowerForTheLate$Plan", name := "isTrain", desc := "(I)Z" } : Jvm.MethodName) ({ cls := "SlowerForTheLate$Plan", name := "isTrain", desc := "(I)Z" } : Jvm.MethodName)) ∈ zTb := zin2 160 (by decide +kernel) rfl
theorem zw401 : (Jvm.Cond.code ({ cls := "SlowerForTheLate$Plan", name := "isTrain", desc := "(I)Z" } : Jvm.MethodName) prog_5_method_11_code (2 : Nat) (Option.some Jvm.ClassFile.FieldType.boolean)) ∈ zTb := zin2 161 (by decide +kernel) rfl
theorem zw402 : (Jvm.Cond.methodLink "SlowerForTheLate$Plan" (135 : Nat) ({ cls := "SlowerForTheLate$Plan", name := "turnCancelled", desc := "(I)V" } : Jvm.MethodName)) ∈ zTb := zin2 162 (by decide +kernel) rfl
theorem zw403 : (Jvm.Cond.instanceMethod ({ cls := "SlowerForTheLate$Plan", name := "turnCancelled", desc := "(I)V" } : Jvm.MethodName)) ∈ zTb := zin2 163 (by decide +kernel) rfl
theorem zw404 : (Jvm.Cond.selects "SlowerForTheLate$Plan" ({ cls := "SlowerForTheLate$Plan", name := "turnCancelled", desc := "(I)V" } : Jvm.MethodName) ({ cls := "SlowerForTheLate$Plan", name := "turnCancelled", desc := "(I)V" } : Jvm.MethodName)) ∈ zTb := zin2 164 (by decide +kernel) rfl
theorem zw405 : (Jvm.Cond.code ({ cls := "SlowerForTheLate$Plan", name := "turnCancelled", desc := "(I)V" } : Jvm.MethodName) prog_5_method_15_code (2 : Nat) (Option.none : Option Jvm.ClassFile.FieldType)) ∈ zTb := zin2 165 (by decide +kernel) rfl
theorem zw409 : (Jvm.Cond.code ({ cls := "SlowerForTheLate", name := "traveller", desc := "(II)I" } : Jvm.MethodName) prog_1_method_3_code (4 : Nat) (Option.some Jvm.ClassFile.FieldType.int)) ∈ zTb := zin2 169 (by decide +kernel) rfl
theorem zw410 : (Jvm.Cond.methodLink "SlowerForTheLate" (82 : Nat) ({ cls := "SlowerForTheLate$Plan", name := "isPerson", desc := "(I)Z" } : Jvm.MethodName)) ∈ zTb := zin2 170 (by decide +kernel) rfl
theorem zw411 : (Jvm.Cond.instanceMethod ({ cls := "SlowerForTheLate$Plan", name := "isPerson", desc := "(I)Z" } : Jvm.MethodName)) ∈ zTb := zin2 171 (by decide +kernel) rfl
theorem zw412 : (Jvm.Cond.selects "SlowerForTheLate$Plan" ({ cls := "SlowerForTheLate$Plan", name := "isPerson", desc := "(I)Z" } : Jvm.MethodName) ({ cls := "SlowerForTheLate$Plan", name := "isPerson", desc := "(I)Z" } : Jvm.MethodName)) ∈ zTb := zin2 172 (by decide +kernel) rfl
theorem zw413 : (Jvm.Cond.code ({ cls := "SlowerForTheLate$Plan", name := "isPerson", desc := "(I)Z" } : Jvm.MethodName) prog_5_method_10_code (2 : Nat) (Option.some Jvm.ClassFile.FieldType.boolean)) ∈ zTb := zin2 173 (by decide +kernel) rfl
theorem zw414 : (Jvm.Cond.methodLink "SlowerForTheLate" (104 : Nat) ({ cls := "SlowerForTheLate$Walker", name := "comesAt", desc := "(I)I" } : Jvm.MethodName)) ∈ zTb := zin2 174 (by decide +kernel) rfl
theorem zw415 : (Jvm.Cond.instanceMethod ({ cls := "SlowerForTheLate$Walker", name := "comesAt", desc := "(I)I" } : Jvm.MethodName)) ∈ zTb := zin2 175 (by decide +kernel) rfl
theorem zw416 : (Jvm.Cond.selects "SlowerForTheLate$Walker" ({ cls := "SlowerForTheLate$Walker", name := "comesAt", desc := "(I)I" } : Jvm.MethodName) ({ cls := "SlowerForTheLate$Walker", name := "comesAt", desc := "(I)I" } : Jvm.MethodName)) ∈ zTb := zin2 176 (by decide +kernel) rfl
theorem zw417 : (Jvm.Cond.sameMethod "SlowerForTheLate$Walker" "SlowerForTheLate$Walker" "comesAt" "(I)I") ∈ zTb := zin2 177 (by decide +kernel) rfl
theorem zw418 : (Jvm.Cond.selects "SlowerForTheLate$Aimer" ({ cls := "SlowerForTheLate$Walker", name := "comesAt", desc := "(I)I" } : Jvm.MethodName) ({ cls := "SlowerForTheLate$Tardy", name := "comesAt", desc := "(I)I" } : Jvm.MethodName)) ∈ zTb := zin2 178 (by decide +kernel) rfl
theorem zw419 : (Jvm.Cond.instanceMethod ({ cls := "SlowerForTheLate$Tardy", name := "comesAt", desc := "(I)I" } : Jvm.MethodName)) ∈ zTb := zin2 179 (by decide +kernel) rfl
theorem zw420 : (Jvm.Cond.code ({ cls := "SlowerForTheLate$Tardy", name := "comesAt", desc := "(I)I" } : Jvm.MethodName) prog_10_method_2_code (2 : Nat) (Option.some Jvm.ClassFile.FieldType.int)) ∈ zTb := zin2 180 (by decide +kernel) rfl
theorem zw421 : (Jvm.Cond.methodLink "SlowerForTheLate$Tardy" (7 : Nat) ({ cls := "SlowerForTheLate$Walker", name := "comesAt", desc := "(I)I" } : Jvm.MethodName)) ∈ zTb := zin2 181 (by decide +kernel) rfl
theorem zw422 : (Jvm.Cond.selects "SlowerForTheLate$Lover" ({ cls := "SlowerForTheLate$Walker", name := "comesAt", desc := "(I)I" } : Jvm.MethodName) ({ cls := "SlowerForTheLate$Lover", name := "comesAt", desc := "(I)I" } : Jvm.MethodName)) ∈ zTb := zin2 182 (by decide +kernel) rfl
theorem zw423 : (Jvm.Cond.instanceMethod ({ cls := "SlowerForTheLate$Lover", name := "comesAt", desc := "(I)I" } : Jvm.MethodName)) ∈ zTb := zin2 183 (by decide +kernel) rfl
theorem zw424 : (Jvm.Cond.code ({ cls := "SlowerForTheLate$Lover", name := "comesAt", desc := "(I)I" } : Jvm.MethodName) prog_3_method_2_code (2 : Nat) (Option.some Jvm.ClassFile.FieldType.int)) ∈ zTb := zin2 184 (by decide +kernel) rfl
theorem zw425 : (Jvm.Cond.methodLink "SlowerForTheLate$Lover" (7 : Nat) ({ cls := "SlowerForTheLate$Tardy", name := "comesAt", desc := "(I)I" } : Jvm.MethodName)) ∈ zTb := zin2 185 (by decide +kernel) rfl
theorem zw426 : (Jvm.Cond.selects "SlowerForTheLate$Parent" ({ cls := "SlowerForTheLate$Walker", name := "comesAt", desc := "(I)I" } : Jvm.MethodName) ({ cls := "SlowerForTheLate$Walker", name := "comesAt", desc := "(I)I" } : Jvm.MethodName)) ∈ zTb := zin2 186 (by decide +kernel) rfl
theorem zw427 : (Jvm.Cond.selects "SlowerForTheLate$Runner" ({ cls := "SlowerForTheLate$Walker", name := "comesAt", desc := "(I)I" } : Jvm.MethodName) ({ cls := "SlowerForTheLate$Runner", name := "comesAt", desc := "(I)I" } : Jvm.MethodName)) ∈ zTb := zin2 187 (by decide +kernel) rfl
theorem zw428 : (Jvm.Cond.instanceMethod ({ cls := "SlowerForTheLate$Runner", name := "comesAt", desc := "(I)I" } : Jvm.MethodName)) ∈ zTb := zin2 188 (by decide +kernel) rfl
theorem zw429 : (Jvm.Cond.code ({ cls := "SlowerForTheLate$Runner", name := "comesAt", desc := "(I)I" } : Jvm.MethodName) prog_7_method_2_code (2 : Nat) (Option.some Jvm.ClassFile.FieldType.int)) ∈ zTb := zin2 189 (by decide +kernel) rfl
theorem zw430 : (Jvm.Cond.methodLink "SlowerForTheLate$Runner" (7 : Nat) ({ cls := "SlowerForTheLate$Walker", name := "comesAt", desc := "(I)I" } : Jvm.MethodName)) ∈ zTb := zin2 190 (by decide +kernel) rfl
theorem zw431 : (Jvm.Cond.methodLink "SlowerForTheLate$Runner" (17 : Nat) ({ cls := "java/lang/Math", name := "max", desc := "(II)I" } : Jvm.MethodName)) ∈ zTb := zin2 191 (by decide +kernel) rfl
theorem zw432 : (Jvm.Cond.static ({ cls := "java/lang/Math", name := "max", desc := "(II)I" } : Jvm.MethodName)) ∈ zTb := zin2 192 (by decide +kernel) rfl
theorem zw433 : (Jvm.Cond.code ({ cls := "java/lang/Math", name := "max", desc := "(II)I" } : Jvm.MethodName) prog_19_method_65_code (2 : Nat) (Option.some Jvm.ClassFile.FieldType.int)) ∈ zTb := zin2 193 (by decide +kernel) rfl
theorem zw434 : (Jvm.Cond.selects "SlowerForTheLate$Sleeper" ({ cls := "SlowerForTheLate$Walker", name := "comesAt", desc := "(I)I" } : Jvm.MethodName) ({ cls := "SlowerForTheLate$Walker", name := "comesAt", desc := "(I)I" } : Jvm.MethodName)) ∈ zTb := zin2 194 (by decide +kernel) rfl
theorem zw435 : (Jvm.Cond.selects "SlowerForTheLate$Staff" ({ cls := "SlowerForTheLate$Walker", name := "comesAt", desc := "(I)I" } : Jvm.MethodName) ({ cls := "SlowerForTheLate$Staff", name := "comesAt", desc := "(I)I" } : Jvm.MethodName)) ∈ zTb := zin2 195 (by decide +kernel) rfl
theorem zw436 : (Jvm.Cond.instanceMethod ({ cls := "SlowerForTheLate$Staff", name := "comesAt", desc := "(I)I" } : Jvm.MethodName)) ∈ zTb := zin2 196 (by decide +kernel) rfl
theorem zw437 : (Jvm.Cond.code ({ cls := "SlowerForTheLate$Staff", name := "comesAt", desc := "(I)I" } : Jvm.MethodName) prog_9_method_2_code (2 : Nat) (Option.some Jvm.ClassFile.FieldType.int)) ∈ zTb := zin2 197 (by decide +kernel) rfl
theorem zw438 : (Jvm.Cond.methodLink "SlowerForTheLate$Staff" (7 : Nat) ({ cls := "SlowerForTheLate$Runner", name := "comesAt", desc := "(I)I" } : Jvm.MethodName)) ∈ zTb := zin2 198 (by decide +kernel) rfl
theorem zw439 : (Jvm.Cond.methodLink "SlowerForTheLate$Staff" (11 : Nat) ({ cls := "java/lang/Math", name := "max", desc := "(II)I" } : Jvm.MethodName)) ∈ zTb := zin2 199 (by decide +kernel) rfl
theorem zw440 : (Jvm.Cond.selects "SlowerForTheLate$Tardy" ({ cls := "SlowerForTheLate$Walker", name := "comesAt", desc := "(I)I" } : Jvm.MethodName) ({ cls := "SlowerForTheLate$Tardy", name := "comesAt", desc := "(I)I" } : Jvm.MethodName)) ∈ zTb := zin2 200 (by decide +kernel) rfl
theorem zw441 : (Jvm.Cond.code ({ cls := "SlowerForTheLate$Walker", name := "comesAt", desc := "(I)I" } : Jvm.MethodName) prog_12_method_5_code (2 : Nat) (Option.some Jvm.ClassFile.FieldType.int)) ∈ zTb := zin2 201 (by decide +kernel) rfl
theorem zw442 : (Jvm.Cond.methodLink "SlowerForTheLate" (107 : Nat) ({ cls := "SlowerForTheLate$Walker", name := "excuse", desc := "()I" } : Jvm.MethodName)) ∈ zTb := zin2 202 (by decide +kernel) rfl
theorem zw443 : (Jvm.Cond.instanceMethod ({ cls := "SlowerForTheLate$Walker", name := "excuse", desc := "()I" } : Jvm.MethodName)) ∈ zTb := zin2 203 (by decide +kernel) rfl
theorem zw444 : (Jvm.Cond.selects "SlowerForTheLate$Walker" ({ cls := "SlowerForTheLate$Walker", name := "excuse", desc := "()I" } : Jvm.MethodName) ({ cls := "SlowerForTheLate$Walker", name := "excuse", desc := "()I" } : Jvm.MethodName)) ∈ zTb := zin2 204 (by decide +kernel) rfl
theorem zw445 : (Jvm.Cond.sameMethod "SlowerForTheLate$Walker" "SlowerForTheLate$Walker" "excuse" "()I") ∈ zTb := zin2 205 (by decide +kernel) rfl
theorem zw446 : (Jvm.Cond.selects "SlowerForTheLate$Aimer" ({ cls := "SlowerForTheLate$Walker", name := "excuse", desc := "()I" } : Jvm.MethodName) ({ cls := "SlowerForTheLate$Aimer", name := "excuse", desc := "()I" } : Jvm.MethodName)) ∈ zTb := zin2 206 (by decide +kernel) rfl
theorem zw447 : (Jvm.Cond.instanceMethod ({ cls := "SlowerForTheLate$Aimer", name := "excuse", desc := "()I" } : Jvm.MethodName)) ∈ zTb := zin2 207 (by decide +kernel) rfl
theorem zw448 : (Jvm.Cond.code ({ cls := "SlowerForTheLate$Aimer", name := "excuse", desc := "()I" } : Jvm.MethodName) prog_2_method_2_code (1 : Nat) (Option.some Jvm.ClassFile.FieldType.int)) ∈ zTb := zin2 208 (by decide +kernel) rfl
theorem zw449 : (Jvm.Cond.methodLink "SlowerForTheLate$Aimer" (7 : Nat) ({ cls := "SlowerForTheLate$Tardy", name := "excuse", desc := "()I" } : Jvm.MethodName)) ∈ zTb := zin2 209 (by decide +kernel) rfl
theorem zw450 : (Jvm.Cond.instanceMethod ({ cls := "SlowerForTheLate$Tardy", name := "excuse", desc := "()I" } : Jvm.MethodName)) ∈ zTb := zin2 210 (by decide +kernel) rfl
theorem zw451 : (Jvm.Cond.code ({ cls := "SlowerForTheLate$Tardy", name := "excuse", desc := "()I" } : Jvm.MethodName) prog_10_method_3_code (1 : Nat) (Option.some Jvm.ClassFile.FieldType.int)) ∈ zTb := zin2 211 (by decide +kernel) rfl
theorem zw452 : (Jvm.Cond.methodLink "SlowerForTheLate$Tardy" (17 : Nat) ({ cls := "SlowerForTheLate$Walker", name := "excuse", desc := "()I" } : Jvm.MethodName)) ∈ zTb := zin2 212 (by decide +kernel) rfl
theorem zw453 : (Jvm.Cond.methodLink "SlowerForTheLate$Aimer" (11 : Nat) ({ cls := "java/lang/Math", name := "max", desc := "(II)I" } : Jvm.MethodName)) ∈ zTb := zin2 213 (by decide +kernel) rfl
theorem zw454 : (Jvm.Cond.selects "SlowerForTheLate$Lover" ({ cls := "SlowerForTheLate$Walker", name := "excuse", desc := "()I" } : Jvm.MethodName) ({ cls := "SlowerForTheLate$Lover", name := "excuse", desc := "()I" } : Jvm.MethodName)) ∈ zTb := zin2 214 (by decide +kernel) rfl
theorem zw455 : (Jvm.Cond.instanceMethod ({ cls := "SlowerForTheLate$Lover", name := "excuse", desc := "()I" } : Jvm.MethodName)) ∈ zTb := zin2 215 (by decide +kernel) rfl
theorem zw456 : (Jvm.Cond.code ({ cls := "SlowerForTheLate$Lover", name := "excuse", desc := "()I" } : Jvm.MethodName) prog_3_method_3_code (1 : Nat) (Option.some Jvm.ClassFile.FieldType.int)) ∈ zTb := zin2 216 (by decide +kernel) rfl
theorem zw457 : (Jvm.Cond.methodLink "SlowerForTheLate$Lover" (11 : Nat) ({ cls := "SlowerForTheLate$Tardy", name := "excuse", desc := "()I" } : Jvm.MethodName)) ∈ zTb := zin2 217 (by decide +kernel) rfl
theorem zw458 : (Jvm.Cond.selects "SlowerForTheLate$Parent" ({ cls := "SlowerForTheLate$Walker", name := "excuse", desc := "()I" } : Jvm.MethodName) ({ cls := "SlowerForTheLate$Parent", name := "excuse", desc := "()I" } : Jvm.MethodName)) ∈ zTb := zin2 218 (by decide +kernel) rfl
theorem zw459 : (Jvm.Cond.instanceMethod ({ cls := "SlowerForTheLate$Parent", name := "excuse", desc := "()I" } : Jvm.MethodName)) ∈ zTb := zin2 219 (by decide +kernel) rfl
theorem zw460 : (Jvm.Cond.code ({ cls := "SlowerForTheLate$Parent", name := "excuse", desc := "()I" } : Jvm.MethodName) prog_4_method_2_code (1 : Nat) (Option.some Jvm.ClassFile.FieldType.int)) ∈ zTb := zin2 220 (by decide +kernel) rfl
theorem zw461 : (Jvm.Cond.methodLink "SlowerForTheLate$Parent" (7 : Nat) ({ cls := "SlowerForTheLate$Walker", name := "excuse", desc := "()I" } : Jvm.MethodName)) ∈ zTb := zin2 221 (by decide +kernel) rfl
theorem zw462 : (Jvm.Cond.selects "SlowerForTheLate$Runner" ({ cls := "SlowerForTheLate$Walker", name := "excuse", desc := "()I" } : Jvm.MethodName) ({ cls := "SlowerForTheLate$Runner", name := "excuse", desc := "()I" } : Jvm.MethodName)) ∈ zTb := zin2 222 (by decide +kernel) rfl
theorem zw463 : (Jvm.Cond.instanceMethod ({ cls := "SlowerForTheLate$Runner", name := "excuse", desc := "()I" } : Jvm.MethodName)) ∈ zTb := zin2 223 (by decide +kernel) rfl
theorem zw464 : (Jvm.Cond.code ({ cls := "SlowerForTheLate$Runner", name := "excuse", desc := "()I" } : Jvm.MethodName) prog_7_method_3_code (1 : Nat) (Option.some Jvm.ClassFile.FieldType.int)) ∈ zTb := zin2 224 (by decide +kernel) rfl
theorem zw465 : (Jvm.Cond.methodLink "SlowerForTheLate$Runner" (23 : Nat) ({ cls := "SlowerForTheLate$Walker", name := "excuse", desc := "()I" } : Jvm.MethodName)) ∈ zTb := zin2 225 (by decide +kernel) rfl
theorem zw466 : (Jvm.Cond.selects "SlowerForTheLate$Sleeper" ({ cls := "SlowerForTheLate$Walker", name := "excuse", desc := "()I" } : Jvm.MethodName) ({ cls := "SlowerForTheLate$Sleeper", name := "excuse", desc := "()I" } : Jvm.MethodName)) ∈ zTb := zin2 226 (by decide +kernel) rfl
theorem zw467 : (Jvm.Cond.instanceMethod ({ cls := "SlowerForTheLate$Sleeper", name := "excuse", desc := "()I" } : Jvm.MethodName)) ∈ zTb := zin2 227 (by decide +kernel) rfl
theorem zw468 : (Jvm.Cond.code ({ cls := "SlowerForTheLate$Sleeper", name := "excuse", desc := "()I" } : Jvm.MethodName) prog_8_method_2_code (1 : Nat) (Option.some Jvm.ClassFile.FieldType.int)) ∈ zTb := zin2 228 (by decide +kernel) rfl
theorem zw469 : (Jvm.Cond.methodLink "SlowerForTheLate$Sleeper" (7 : Nat) ({ cls := "SlowerForTheLate$Walker", name := "excuse", desc := "()I" } : Jvm.MethodName)) ∈ zTb := zin2 229 (by decide +kernel) rfl
theorem zw470 : (Jvm.Cond.selects "SlowerForTheLate$Staff" ({ cls := "SlowerForTheLate$Walker", name := "excuse", desc := "()I" } : Jvm.MethodName) ({ cls := "SlowerForTheLate$Staff", name := "excuse", desc := "()I" } : Jvm.MethodName)) ∈ zTb := zin2 230 (by decide +kernel) rfl
theorem zw471 : (Jvm.Cond.instanceMethod ({ cls := "SlowerForTheLate$Staff", name := "excuse", desc := "()I" } : Jvm.MethodName)) ∈ zTb := zin2 231 (by decide +kernel) rfl
theorem zw472 : (Jvm.Cond.code ({ cls := "SlowerForTheLate$Staff", name := "excuse", desc := "()I" } : Jvm.MethodName) prog_9_method_3_code (1 : Nat) (Option.some Jvm.ClassFile.FieldType.int)) ∈ zTb := zin2 232 (by decide +kernel) rfl
theorem zw473 : (Jvm.Cond.methodLink "SlowerForTheLate$Staff" (17 : Nat) ({ cls := "SlowerForTheLate$Runner", name := "excuse", desc := "()I" } : Jvm.MethodName)) ∈ zTb := zin2 233 (by decide +kernel) rfl
theorem zw474 : (Jvm.Cond.selects "SlowerForTheLate$Tardy" ({ cls := "SlowerForTheLate$Walker", name := "excuse", desc := "()I" } : Jvm.MethodName) ({ cls := "SlowerForTheLate$Tardy", name := "excuse", desc := "()I" } : Jvm.MethodName)) ∈ zTb := zin2 234 (by decide +kernel) rfl
theorem zw475 : (Jvm.Cond.code ({ cls := "SlowerForTheLate$Walker", name := "excuse", desc := "()I" } : Jvm.MethodName) prog_12_method_6_code (1 : Nat) (Option.some Jvm.ClassFile.FieldType.int)) ∈ zTb := zin2 235 (by decide +kernel) rfl
theorem zw476 : (Jvm.Cond.methodLink "SlowerForTheLate" (110 : Nat) ({ cls := "SlowerForTheLate$Walker", name := "rank", desc := "()I" } : Jvm.MethodName)) ∈ zTb := zin2 236 (by decide +kernel) rfl
theorem zw477 : (Jvm.Cond.instanceMethod ({ cls := "SlowerForTheLate$Walker", name := "rank", desc := "()I" } : Jvm.MethodName)) ∈ zTb := zin2 237 (by decide +kernel) rfl
theorem zw478 : (Jvm.Cond.selects "SlowerForTheLate$Walker" ({ cls := "SlowerForTheLate$Walker", name := "rank", desc := "()I" } : Jvm.MethodName) ({ cls := "SlowerForTheLate$Walker", name := "rank", desc := "()I" } : Jvm.MethodName)) ∈ zTb := zin2 238 (by decide +kernel) rfl
theorem zw479 : (Jvm.Cond.sameMethod "SlowerForTheLate$Walker" "SlowerForTheLate$Walker" "rank" "()I") ∈ zTb := zin2 239 (by decide +kernel) rfl
theorem zw480 : (Jvm.Cond.selects "SlowerForTheLate$Aimer" ({ cls := "SlowerForTheLate$Walker", name := "rank", desc := "()I" } : Jvm.MethodName) ({ cls := "SlowerForTheLate$Walker", name := "rank", desc := "()I" } : Jvm.MethodName)) ∈ zTb := zin3 0 (by decide +kernel) rfl
theorem zw481 : (Jvm.Cond.selects "SlowerForTheLate$Lover" ({ cls := "SlowerForTheLate$Walker", name := "rank", desc := "()I" } : Jvm.MethodName) ({ cls := "SlowerForTheLate$Lover", name := "rank", desc := "()I" } : Jvm.MethodName)) ∈ zTb := zin3 1 (by decide +kernel) rfl
theorem zw482 : (Jvm.Cond.instanceMethod ({ cls := "SlowerForTheLate$Lover", name := "rank", desc := "()I" } : Jvm.MethodName)) ∈ zTb := zin3 2 (by decide +kernel) rfl
theorem zw483 : (Jvm.Cond.code ({ cls := "SlowerForTheLate$Lover", name := "rank", desc := "()I" } : Jvm.MethodName) prog_3_method_4_code (1 : Nat) (Option.some Jvm.ClassFile.FieldType.int)) ∈ zTb := zin3 3 (by decide +kernel) rfl
theorem zw484 : (Jvm.Cond.methodLink "SlowerForTheLate$Lover" (15 : Nat) ({ cls := "SlowerForTheLate$Tardy", name := "rank", desc := "()I" } : Jvm.MethodName)) ∈ zTb := zin3 4 (by decide +kernel) rfl
theorem zw485 : (Jvm.Cond.sameMethod "SlowerForTheLate$Tardy" "SlowerForTheLate$Walker" "rank" "()I") ∈ zTb := zin3 5 (by decide +kernel) rfl
theorem zw487 : (Jvm.Cond.selects "SlowerForTheLate$Parent" ({ cls := "SlowerForTheLate$Walker", name := "rank", desc := "()I" } : Jvm.MethodName) ({ cls := "SlowerForTheLate$Walker", name := "rank", desc := "()I" } : Jvm.MethodName)) ∈ zTb := zin3 7 (by decide +kernel) rfl
theorem zw488 : (Jvm.Cond.selects "SlowerForTheLate$Runner" ({ cls := "SlowerForTheLate$Walker", name := "rank", desc := "()I" } : Jvm.MethodName) ({ cls := "SlowerForTheLate$Runner", name := "rank", desc := "()I" } : Jvm.MethodName)) ∈ zTb := zin3 8 (by decide +kernel) rfl
theorem zw489 : (Jvm.Cond.instanceMethod ({ cls := "SlowerForTheLate$Runner", name := "rank", desc := "()I" } : Jvm.MethodName)) ∈ zTb := zin3 9 (by decide +kernel) rfl
theorem zw490 : (Jvm.Cond.code ({ cls := "SlowerForTheLate$Runner", name := "rank", desc := "()I" } : Jvm.MethodName) prog_7_method_4_code (1 : Nat) (Option.some Jvm.ClassFile.FieldType.int)) ∈ zTb := zin3 10 (by decide +kernel) rfl
theorem zw491 : (Jvm.Cond.methodLink "SlowerForTheLate$Runner" (27 : Nat) ({ cls := "SlowerForTheLate$Walker", name := "rank", desc := "()I" } : Jvm.MethodName)) ∈ zTb := zin3 11 (by decide +kernel) rfl
theorem zw492 : (Jvm.Cond.selects "SlowerForTheLate$Sleeper" ({ cls := "SlowerForTheLate$Walker", name := "rank", desc := "()I" } : Jvm.MethodName) ({ cls := "SlowerForTheLate$Walker", name := "rank", desc := "()I" } : Jvm.MethodName)) ∈ zTb := zin3 12 (by decide +kernel) rfl
theorem zw493 : (Jvm.Cond.selects "SlowerForTheLate$Staff" ({ cls := "SlowerForTheLate$Walker", name := "rank", desc := "()I" } : Jvm.MethodName) ({ cls := "SlowerForTheLate$Staff", name := "rank", desc := "()I" } : Jvm.MethodName)) ∈ zTb := zin3 13 (by decide +kernel) rfl
theorem zw494 : (Jvm.Cond.instanceMethod ({ cls := "SlowerForTheLate$Staff", name := "rank", desc := "()I" } : Jvm.MethodName)) ∈ zTb := zin3 14 (by decide +kernel) rfl
theorem zw495 : (Jvm.Cond.code ({ cls := "SlowerForTheLate$Staff", name := "rank", desc := "()I" } : Jvm.MethodName) prog_9_method_4_code (1 : Nat) (Option.some Jvm.ClassFile.FieldType.int)) ∈ zTb := zin3 15 (by decide +kernel) rfl
theorem zw496 : (Jvm.Cond.methodLink "SlowerForTheLate$Staff" (21 : Nat) ({ cls := "SlowerForTheLate$Runner", name := "rank", desc := "()I" } : Jvm.MethodName)) ∈ zTb := zin3 16 (by decide +kernel) rfl
theorem zw497 : (Jvm.Cond.selects "SlowerForTheLate$Tardy" ({ cls := "SlowerForTheLate$Walker", name := "rank", desc := "()I" } : Jvm.MethodName) ({ cls := "SlowerForTheLate$Walker", name := "rank", desc := "()I" } : Jvm.MethodName)) ∈ zTb := zin3 17 (by decide +kernel) rfl
theorem zw498 : (Jvm.Cond.code ({ cls := "SlowerForTheLate$Walker", name := "rank", desc := "()I" } : Jvm.MethodName) prog_12_method_7_code (1 : Nat) (Option.some Jvm.ClassFile.FieldType.int)) ∈ zTb := zin3 18 (by decide +kernel) rfl
theorem zw499 : (Jvm.Cond.methodLink "SlowerForTheLate" (113 : Nat) ({ cls := "SlowerForTheLate$Walker", name := "places", desc := "()I" } : Jvm.MethodName)) ∈ zTb := zin3 19 (by decide +kernel) rfl
theorem zw500 : (Jvm.Cond.instanceMethod ({ cls := "SlowerForTheLate$Walker", name := "places", desc := "()I" } : Jvm.MethodName)) ∈ zTb := zin3 20 (by decide +kernel) rfl
theorem zw501 : (Jvm.Cond.selects "SlowerForTheLate$Walker" ({ cls := "SlowerForTheLate$Walker", name := "places", desc := "()I" } : Jvm.MethodName) ({ cls := "SlowerForTheLate$Walker", name := "places", desc := "()I" } : Jvm.MethodName)) ∈ zTb := zin3 21 (by decide +kernel) rfl
theorem zw502 : (Jvm.Cond.sameMethod "SlowerForTheLate$Walker" "SlowerForTheLate$Walker" "places" "()I") ∈ zTb := zin3 22 (by decide +kernel) rfl
theorem zw503 : (Jvm.Cond.selects "SlowerForTheLate$Aimer" ({ cls := "SlowerForTheLate$Walker", name := "places", desc := "()I" } : Jvm.MethodName) ({ cls := "SlowerForTheLate$Walker", name := "places", desc := "()I" } : Jvm.MethodName)) ∈ zTb := zin3 23 (by decide +kernel) rfl
theorem zw504 : (Jvm.Cond.selects "SlowerForTheLate$Lover" ({ cls := "SlowerForTheLate$Walker", name := "places", desc := "()I" } : Jvm.MethodName) ({ cls := "SlowerForTheLate$Walker", name := "places", desc := "()I" } : Jvm.MethodName)) ∈ zTb := zin3 24 (by decide +kernel) rfl
theorem zw505 : (Jvm.Cond.selects "SlowerForTheLate$Parent" ({ cls := "SlowerForTheLate$Walker", name := "places", desc := "()I" } : Jvm.MethodName) ({ cls := "SlowerForTheLate$Parent", name := "places", desc := "()I" } : Jvm.MethodName)) ∈ zTb := zin3 25 (by decide +kernel) rfl
theorem zw506 : (Jvm.Cond.instanceMethod ({ cls := "SlowerForTheLate$Parent", name := "places", desc := "()I" } : Jvm.MethodName)) ∈ zTb := zin3 26 (by decide +kernel) rfl
theorem zw507 : (Jvm.Cond.code ({ cls := "SlowerForTheLate$Parent", name := "places", desc := "()I" } : Jvm.MethodName) prog_4_method_3_code (1 : Nat) (Option.some Jvm.ClassFile.FieldType.int)) ∈ zTb := zin3 27 (by decide +kernel) rfl
theorem zw508 : (Jvm.Cond.selects "SlowerForTheLate$Runner" ({ cls := "SlowerForTheLate$Walker", name := "places", desc := "()I" } : Jvm.MethodName) ({ cls := "SlowerForTheLate$Walker", name := "places", desc := "()I" } : Jvm.MethodName)) ∈ zTb := zin3 28 (by decide +kernel) rfl
theorem zw509 : (Jvm.Cond.selects "SlowerForTheLate$Sleeper" ({ cls := "SlowerForTheLate$Walker", name := "places", desc := "()I" } : Jvm.MethodName) ({ cls := "SlowerForTheLate$Walker", name := "places", desc := "()I" } : Jvm.MethodName)) ∈ zTb := zin3 29 (by decide +kernel) rfl
theorem zw510 : (Jvm.Cond.selects "SlowerForTheLate$Staff" ({ cls := "SlowerForTheLate$Walker", name := "places", desc := "()I" } : Jvm.MethodName) ({ cls := "SlowerForTheLate$Walker", name := "places", desc := "()I" } : Jvm.MethodName)) ∈ zTb := zin3 30 (by decide +kernel) rfl
theorem zw511 : (Jvm.Cond.selects "SlowerForTheLate$Tardy" ({ cls := "SlowerForTheLate$Walker", name := "places", desc := "()I" } : Jvm.MethodName) ({ cls := "SlowerForTheLate$Walker", name := "places", desc := "()I" } : Jvm.MethodName)) ∈ zTb := zin3 31 (by decide +kernel) rfl
theorem zw512 : (Jvm.Cond.code ({ cls := "SlowerForTheLate$Walker", name := "places", desc := "()I" } : Jvm.MethodName) prog_12_method_8_code (1 : Nat) (Option.some Jvm.ClassFile.FieldType.int)) ∈ zTb := zin3 32 (by decide +kernel) rfl
theorem zw513 : (Jvm.Cond.methodLink "SlowerForTheLate" (116 : Nat) ({ cls := "SlowerForTheLate$Walker", name := "offAt", desc := "(I)I" } : Jvm.MethodName)) ∈ zTb := zin3 33 (by decide +kernel) rfl
theorem zw514 : (Jvm.Cond.instanceMethod ({ cls := "SlowerForTheLate$Walker", name := "offAt", desc := "(I)I" } : Jvm.MethodName)) ∈ zTb := zin3 34 (by decide +kernel) rfl
theorem zw515 : (Jvm.Cond.selects "SlowerForTheLate$Walker" ({ cls := "SlowerForTheLate$Walker", name := "offAt", desc := "(I)I" } : Jvm.MethodName) ({ cls := "SlowerForTheLate$Walker", name := "offAt", desc := "(I)I" } : Jvm.MethodName)) ∈ zTb := zin3 35 (by decide +kernel) rfl
theorem zw516 : (Jvm.Cond.sameMethod "SlowerForTheLate$Walker" "SlowerForTheLate$Walker" "offAt" "(I)I") ∈ zTb := zin3 36 (by decide +kernel) rfl
theorem zw517 : (Jvm.Cond.selects "SlowerForTheLate$Aimer" ({ cls := "SlowerForTheLate$Walker", name := "offAt", desc := "(I)I" } : Jvm.MethodName) ({ cls := "SlowerForTheLate$Walker", name := "offAt", desc := "(I)I" } : Jvm.MethodName)) ∈ zTb := zin3 37 (by decide +kernel) rfl
theorem zw518 : (Jvm.Cond.selects "SlowerForTheLate$Lover" ({ cls := "SlowerForTheLate$Walker", name := "offAt", desc := "(I)I" } : Jvm.MethodName) ({ cls := "SlowerForTheLate$Walker", name := "offAt", desc := "(I)I" } : Jvm.MethodName)) ∈ zTb := zin3 38 (by decide +kernel) rfl
theorem zw519 : (Jvm.Cond.selects "SlowerForTheLate$Parent" ({ cls := "SlowerForTheLate$Walker", name := "offAt", desc := "(I)I" } : Jvm.MethodName) ({ cls := "SlowerForTheLate$Walker", name := "offAt", desc := "(I)I" } : Jvm.MethodName)) ∈ zTb := zin3 39 (by decide +kernel) rfl
theorem zw520 : (Jvm.Cond.selects "SlowerForTheLate$Runner" ({ cls := "SlowerForTheLate$Walker", name := "offAt", desc := "(I)I" } : Jvm.MethodName) ({ cls := "SlowerForTheLate$Walker", name := "offAt", desc := "(I)I" } : Jvm.MethodName)) ∈ zTb := zin3 40 (by decide +kernel) rfl
theorem zw521 : (Jvm.Cond.selects "SlowerForTheLate$Sleeper" ({ cls := "SlowerForTheLate$Walker", name := "offAt", desc := "(I)I" } : Jvm.MethodName) ({ cls := "SlowerForTheLate$Sleeper", name := "offAt", desc := "(I)I" } : Jvm.MethodName)) ∈ zTb := zin3 41 (by decide +kernel) rfl
theorem zw522 : (Jvm.Cond.instanceMethod ({ cls := "SlowerForTheLate$Sleeper", name := "offAt", desc := "(I)I" } : Jvm.MethodName)) ∈ zTb := zin3 42 (by decide +kernel) rfl
theorem zw523 : (Jvm.Cond.code ({ cls := "SlowerForTheLate$Sleeper", name := "offAt", desc := "(I)I" } : Jvm.MethodName) prog_8_method_3_code (2 : Nat) (Option.some Jvm.ClassFile.FieldType.int)) ∈ zTb := zin3 43 (by decide +kernel) rfl
theorem zw524 : (Jvm.Cond.methodLink "SlowerForTheLate$Sleeper" (19 : Nat) ({ cls := "SlowerForTheLate$Walker", name := "offAt", desc := "(I)I" } : Jvm.MethodName)) ∈ zTb := zin3 44 (by decide +kernel) rfl
theorem zw525 : (Jvm.Cond.methodLink "SlowerForTheLate$Sleeper" (23 : Nat) ({ cls := "java/lang/Math", name := "min", desc := "(II)I" } : Jvm.MethodName)) ∈ zTb := zin3 45 (by decide +kernel) rfl
theorem zw526 : (Jvm.Cond.static ({ cls := "java/lang/Math", name := "min", desc := "(II)I" } : Jvm.MethodName)) ∈ zTb := zin3 46 (by decide +kernel) rfl
theorem zw527 : (Jvm.Cond.code ({ cls := "java/lang/Math", name := "min", desc := "(II)I" } : Jvm.MethodName) prog_19_method_69_code (2 : Nat) (Option.some Jvm.ClassFile.FieldType.int)) ∈ zTb := zin3 47 (by decide +kernel) rfl
theorem zw528 : (Jvm.Cond.selects "SlowerForTheLate$Staff" ({ cls := "SlowerForTheLate$Walker", name := "offAt", desc := "(I)I" } : Jvm.MethodName) ({ cls := "SlowerForTheLate$Walker", name := "offAt", desc := "(I)I" } : Jvm.MethodName)) ∈ zTb := zin3 48 (by decide +kernel) rfl
theorem zw529 : (Jvm.Cond.selects "SlowerForTheLate$Tardy" ({ cls := "SlowerForTheLate$Walker", name := "offAt", desc := "(I)I" } : Jvm.MethodName) ({ cls := "SlowerForTheLate$Walker", name := "offAt", desc := "(I)I" } : Jvm.MethodName)) ∈ zTb := zin3 49 (by decide +kernel) rfl
theorem zw530 : (Jvm.Cond.code ({ cls := "SlowerForTheLate$Walker", name := "offAt", desc := "(I)I" } : Jvm.MethodName) prog_12_method_9_code (2 : Nat) (Option.some Jvm.ClassFile.FieldType.int)) ∈ zTb := zin3 50 (by decide +kernel) rfl
theorem zw534 : (Jvm.Cond.code ({ cls := "SlowerForTheLate", name := "takes", desc := "(II)I" } : Jvm.MethodName) prog_1_method_4_code (3 : Nat) (Option.some Jvm.ClassFile.FieldType.int)) ∈ zTb := zin3 54 (by decide +kernel) rfl
theorem zw535 : (Jvm.Cond.methodLink "SlowerForTheLate" (119 : Nat) ({ cls := "SlowerForTheLate", name := "isDepth", desc := "(I)Z" } : Jvm.MethodName)) ∈ zTb := zin3 55 (by decide +kernel) rfl
theorem zw536 : (Jvm.Cond.static ({ cls := "SlowerForTheLate", name := "isDepth", desc := "(I)Z" } : Jvm.MethodName)) ∈ zTb := zin3 56 (by decide +kernel) rfl
theorem zw537 : (Jvm.Cond.code ({ cls := "SlowerForTheLate", name := "isDepth", desc := "(I)Z" } : Jvm.MethodName) prog_1_method_59_code (1 : Nat) (Option.some Jvm.ClassFile.FieldType.boolean)) ∈ zTb := zin3 57 (by decide +kernel) rfl
theorem zw538 : (Jvm.Cond.methodLink "SlowerForTheLate" (122 : Nat) ({ cls := "SlowerForTheLate$Walker", name := "boards", desc := "(I)Z" } : Jvm.MethodName)) ∈ zTb := zin3 58 (by decide +kernel) rfl
theorem zw539 : (Jvm.Cond.instanceMethod ({ cls := "SlowerForTheLate$Walker", name := "boards", desc := "(I)Z" } : Jvm.MethodName)) ∈ zTb := zin3 59 (by decide +kernel) rfl
theorem zw540 : (Jvm.Cond.selects "SlowerForTheLate$Walker" ({ cls := "SlowerForTheLate$Walker", name := "boards", desc := "(I)Z" } : Jvm.MethodName) ({ cls := "SlowerForTheLate$Walker", name := "boards", desc := "(I)Z" } : Jvm.MethodName)) ∈ zTb := zin3 60 (by decide +kernel) rfl
theorem zw541 : (Jvm.Cond.sameMethod "SlowerForTheLate$Walker" "SlowerForTheLate$Walker" "boards" "(I)Z") ∈ zTb := zin3 61 (by decide +kernel) rfl
theorem zw542 : (Jvm.Cond.selects "SlowerForTheLate$Aimer" ({ cls := "SlowerForTheLate$Walker", name := "boards", desc := "(I)Z" } : Jvm.MethodName) ({ cls := "SlowerForTheLate$Aimer", name := "boards", desc := "(I)Z" } : Jvm.MethodName)) ∈ zTb := zin3 62 (by decide +kernel) rfl
theorem zw543 : (Jvm.Cond.instanceMethod ({ cls := "SlowerForTheLate$Aimer", name := "boards", desc := "(I)Z" } : Jvm.MethodName)) ∈ zTb := zin3 63 (by decide +kernel) rfl
theorem zw544 : (Jvm.Cond.code ({ cls := "SlowerForTheLate$Aimer", name := "boards", desc := "(I)Z" } : Jvm.MethodName) prog_2_method_3_code (2 : Nat) (Option.some Jvm.ClassFile.FieldType.boolean)) ∈ zTb := zin3 64 (by decide +kernel) rfl
theorem zw545 : (Jvm.Cond.selects "SlowerForTheLate$Lover" ({ cls := "SlowerForTheLate$Walker", name := "boards", desc := "(I)Z" } : Jvm.MethodName) ({ cls := "SlowerForTheLate$Walker", name := "boards", desc := "(I)Z" } : Jvm.MethodName)) ∈ zTb := zin3 65 (by decide +kernel) rfl
theorem zw546 : (Jvm.Cond.selects "SlowerForTheLate$Parent" ({ cls := "SlowerForTheLate$Walker", name := "boards", desc := "(I)Z" } : Jvm.MethodName) ({ cls := "SlowerForTheLate$Walker", name := "boards", desc := "(I)Z" } : Jvm.MethodName)) ∈ zTb := zin3 66 (by decide +kernel) rfl
theorem zw547 : (Jvm.Cond.selects "SlowerForTheLate$Runner" ({ cls := "SlowerForTheLate$Walker", name := "boards", desc := "(I)Z" } : Jvm.MethodName) ({ cls := "SlowerForTheLate$Walker", name := "boards", desc := "(I)Z" } : Jvm.MethodName)) ∈ zTb := zin3 67 (by decide +kernel) rfl
theorem zw548 : (Jvm.Cond.selects "SlowerForTheLate$Sleeper" ({ cls := "SlowerForTheLate$Walker", name := "boards", desc := "(I)Z" } : Jvm.MethodName) ({ cls := "SlowerForTheLate$Walker", name := "boards", desc := "(I)Z" } : Jvm.MethodName)) ∈ zTb := zin3 68 (by decide +kernel) rfl
theorem zw549 : (Jvm.Cond.selects "SlowerForTheLate$Staff" ({ cls := "SlowerForTheLate$Walker", name := "boards", desc := "(I)Z" } : Jvm.MethodName) ({ cls := "SlowerForTheLate$Walker", name := "boards", desc := "(I)Z" } : Jvm.MethodName)) ∈ zTb := zin3 69 (by decide +kernel) rfl
theorem zw550 : (Jvm.Cond.selects "SlowerForTheLate$Tardy" ({ cls := "SlowerForTheLate$Walker", name := "boards", desc := "(I)Z" } : Jvm.MethodName) ({ cls := "SlowerForTheLate$Walker", name := "boards", desc := "(I)Z" } : Jvm.MethodName)) ∈ zTb := zin3 70 (by decide +kernel) rfl
theorem zw551 : (Jvm.Cond.code ({ cls := "SlowerForTheLate$Walker", name := "boards", desc := "(I)Z" } : Jvm.MethodName) prog_12_method_10_code (2 : Nat) (Option.some Jvm.ClassFile.FieldType.boolean)) ∈ zTb := zin3 71 (by decide +kernel) rfl
theorem zw555 : (Jvm.Cond.code ({ cls := "SlowerForTheLate", name := "refund", desc := "(II)I" } : Jvm.MethodName) prog_1_method_5_code (3 : Nat) (Option.some Jvm.ClassFile.FieldType.int)) ∈ zTb := zin3 75 (by decide +kernel) rfl
theorem zw556 : (Jvm.Cond.methodLink "SlowerForTheLate" (125 : Nat) ({ cls := "SlowerForTheLate$Walker", name := "refundFor", desc := "(I)I" } : Jvm.MethodName)) ∈ zTb := zin3 76 (by decide +kernel) rfl
theorem zw557 : (Jvm.Cond.instanceMethod ({ cls := "SlowerForTheLate$Walker", name := "refundFor", desc := "(I)I" } : Jvm.MethodName)) ∈ zTb := zin3 77 (by decide +kernel) rfl
theorem zw558 : (Jvm.Cond.selects "SlowerForTheLate$Walker" ({ cls := "SlowerForTheLate$Walker", name := "refundFor", desc := "(I)I" } : Jvm.MethodName) ({ cls := "SlowerForTheLate$Walker", name := "refundFor", desc := "(I)I" } : Jvm.MethodName)) ∈ zTb := zin3 78 (by decide +kernel) rfl
theorem zw559 : (Jvm.Cond.sameMethod "SlowerForTheLate$Walker" "SlowerForTheLate$Walker" "refundFor" "(I)I") ∈ zTb := zin3 79 (by decide +kernel) rfl
theorem zw560 : (Jvm.Cond.selects "SlowerForTheLate$Aimer" ({ cls := "SlowerForTheLate$Walker", name := "refundFor", desc := "(I)I" } : Jvm.MethodName) ({ cls := "SlowerForTheLate$Tardy", name := "refundFor", desc := "(I)I" } : Jvm.MethodName)) ∈ zTb := zin3 80 (by decide +kernel) rfl
theorem zw561 : (Jvm.Cond.instanceMethod ({ cls := "SlowerForTheLate$Tardy", name := "refundFor", desc := "(I)I" } : Jvm.MethodName)) ∈ zTb := zin3 81 (by decide +kernel) rfl
theorem zw562 : (Jvm.Cond.code ({ cls := "SlowerForTheLate$Tardy", name := "refundFor", desc := "(I)I" } : Jvm.MethodName) prog_10_method_4_code (2 : Nat) (Option.some Jvm.ClassFile.FieldType.int)) ∈ zTb := zin3 82 (by decide +kernel) rfl
theorem zw563 : (Jvm.Cond.methodLink "SlowerForTheLate$Tardy" (21 : Nat) ({ cls := "SlowerForTheLate$Walker", name := "refundFor", desc := "(I)I" } : Jvm.MethodName)) ∈ zTb := zin3 83 (by decide +kernel) rfl
theorem zw564 : (Jvm.Cond.methodLink "SlowerForTheLate$Tardy" (24 : Nat) ({ cls := "java/lang/Math", name := "max", desc := "(II)I" } : Jvm.MethodName)) ∈ zTb := zin3 84 (by decide +kernel) rfl
theorem zw565 : (Jvm.Cond.selects "SlowerForTheLate$Lover" ({ cls := "SlowerForTheLate$Walker", name := "refundFor", desc := "(I)I" } : Jvm.MethodName) ({ cls := "SlowerForTheLate$Tardy", name := "refundFor", desc := "(I)I" } : Jvm.MethodName)) ∈ zTb := zin3 85 (by decide +kernel) rfl
theorem zw566 : (Jvm.Cond.selects "SlowerForTheLate$Parent" ({ cls := "SlowerForTheLate$Walker", name := "refundFor", desc := "(I)I" } : Jvm.MethodName) ({ cls := "SlowerForTheLate$Parent", name := "refundFor", desc := "(I)I" } : Jvm.MethodName)) ∈ zTb := zin3 86 (by decide +kernel) rfl
theorem zw567 : (Jvm.Cond.instanceMethod ({ cls := "SlowerForTheLate$Parent", name := "refundFor", desc := "(I)I" } : Jvm.MethodName)) ∈ zTb := zin3 87 (by decide +kernel) rfl
theorem zw568 : (Jvm.Cond.code ({ cls := "SlowerForTheLate$Parent", name := "refundFor", desc := "(I)I" } : Jvm.MethodName) prog_4_method_4_code (2 : Nat) (Option.some Jvm.ClassFile.FieldType.int)) ∈ zTb := zin3 88 (by decide +kernel) rfl
theorem zw569 : (Jvm.Cond.methodLink "SlowerForTheLate$Parent" (11 : Nat) ({ cls := "SlowerForTheLate$Walker", name := "refundFor", desc := "(I)I" } : Jvm.MethodName)) ∈ zTb := zin3 89 (by decide +kernel) rfl
theorem zw570 : (Jvm.Cond.selects "SlowerForTheLate$Runner" ({ cls := "SlowerForTheLate$Walker", name := "refundFor", desc := "(I)I" } : Jvm.MethodName) ({ cls := "SlowerForTheLate$Walker", name := "refundFor", desc := "(I)I" } : Jvm.MethodName)) ∈ zTb := zin3 90 (by decide +kernel) rfl
theorem zw571 : (Jvm.Cond.selects "SlowerForTheLate$Sleeper" ({ cls := "SlowerForTheLate$Walker", name := "refundFor", desc := "(I)I" } : Jvm.MethodName) ({ cls := "SlowerForTheLate$Walker", name := "refundFor", desc := "(I)I" } : Jvm.MethodName)) ∈ zTb := zin3 91 (by decide +kernel) rfl
theorem zw572 : (Jvm.Cond.selects "SlowerForTheLate$Staff" ({ cls := "SlowerForTheLate$Walker", name := "refundFor", desc := "(I)I" } : Jvm.MethodName) ({ cls := "SlowerForTheLate$Staff", name := "refundFor", desc := "(I)I" } : Jvm.MethodName)) ∈ zTb := zin3 92 (by decide +kernel) rfl
theorem zw573 : (Jvm.Cond.instanceMethod ({ cls := "SlowerForTheLate$Staff", name := "refundFor", desc := "(I)I" } : Jvm.MethodName)) ∈ zTb := zin3 93 (by decide +kernel) rfl
theorem zw574 : (Jvm.Cond.code ({ cls := "SlowerForTheLate$Staff", name := "refundFor", desc := "(I)I" } : Jvm.MethodName) prog_9_method_5_code (2 : Nat) (Option.some Jvm.ClassFile.FieldType.int)) ∈ zTb := zin3 94 (by decide +kernel) rfl
theorem zw575 : (Jvm.Cond.selects "SlowerForTheLate$Tardy" ({ cls := "SlowerForTheLate$Walker", name := "refundFor", desc := "(I)I" } : Jvm.MethodName) ({ cls := "SlowerForTheLate$Tardy", name := "refundFor", desc := "(I)I" } : Jvm.MethodName)) ∈ zTb := zin3 95 (by decide +kernel) rfl
theorem zw576 : (Jvm.Cond.code ({ cls := "SlowerForTheLate$Walker", name := "refundFor", desc := "(I)I" } : Jvm.MethodName) prog_12_method_11_code (2 : Nat) (Option.some Jvm.ClassFile.FieldType.int)) ∈ zTb := zin3 96 (by decide +kernel) rfl
theorem zw580 : (Jvm.Cond.code ({ cls := "SlowerForTheLate", name := "comes", desc := "(IIII)I" } : Jvm.MethodName) prog_1_method_6_code (6 : Nat) (Option.some Jvm.ClassFile.FieldType.int)) ∈ zTb := zin3 100 (by decide +kernel) rfl
theorem zw581 : (Jvm.Cond.methodLink "SlowerForTheLate" (131 : Nat) ({ cls := "SlowerForTheLate$Plan", name := "isStop", desc := "(I)Z" } : Jvm.MethodName)) ∈ zTb := zin3 101 (by decide +kernel) rfl
theorem zw582 : (Jvm.Cond.methodLink "SlowerForTheLate" (134 : Nat) ({ cls := "SlowerForTheLate$Plan", name := "isBase", desc := "(I)Z" } : Jvm.MethodName)) ∈ zTb := zin3 102 (by decide +kernel) rfl
theorem zw583 : (Jvm.Cond.methodLink "SlowerForTheLate" (140 : Nat) ({ cls := "SlowerForTheLate$Plan", name := "addPerson", desc := "(LSlowerForTheLate$Walker;III)Z" } : Jvm.MethodName)) ∈ zTb := zin3 103 (by decide +kernel) rfl
theorem zw587 : (Jvm.Cond.code ({ cls := "SlowerForTheLate", name := "leaves", desc := "(I)I" } : Jvm.MethodName) prog_1_method_7_code (2 : Nat) (Option.some Jvm.ClassFile.FieldType.int)) ∈ zTb := zin3 107 (by decide +kernel) rfl
theorem zw588 : (Jvm.Cond.methodLink "SlowerForTheLate" (147 : Nat) ({ cls := "SlowerForTheLate$Plan", name := "dropPerson", desc := "(I)V" } : Jvm.MethodName)) ∈ zTb := zin3 108 (by decide +kernel) rfl
theorem zw589 : (Jvm.Cond.instanceMethod ({ cls := "SlowerForTheLate$Plan", name := "dropPerson", desc := "(I)V" } : Jvm.MethodName)) ∈ zTb := zin3 109 (by decide +kernel) rfl
theorem zw590 : (Jvm.Cond.selects "SlowerForTheLate$Plan" ({ cls := "SlowerForTheLate$Plan", name := "dropPerson", desc := "(I)V" } : Jvm.MethodName) ({ cls := "SlowerForTheLate$Plan", name := "dropPerson", desc := "(I)V" } : Jvm.MethodName)) ∈ zTb := zin3 110 (by decide +kernel) rfl
theorem zw591 : (Jvm.Cond.code ({ cls := "SlowerForTheLate$Plan", name := "dropPerson", desc := "(I)V" } : Jvm.MethodName) prog_5_method_13_code (3 : Nat) (Option.none : Option Jvm.ClassFile.FieldType)) ∈ zTb := zin3 111 (by decide +kernel) rfl
theorem zw592 : (Jvm.Cond.methodLink "SlowerForTheLate$Plan" (57 : Nat) ({ cls := "SlowerForTheLate$Plan", name := "isPerson", desc := "(I)Z" } : Jvm.MethodName)) ∈ zTb := zin3 112 (by decide +kernel) rfl
theorem zw596 : (Jvm.Cond.code ({ cls := "SlowerForTheLate", name := "base", desc := "(II)I" } : Jvm.MethodName) prog_1_method_8_code (4 : Nat) (Option.some Jvm.ClassFile.FieldType.int)) ∈ zTb := zin3 116 (by decide +kernel) rfl
theorem zw600 : (Jvm.Cond.code ({ cls := "SlowerForTheLate", name := "train", desc := "(II)I" } : Jvm.MethodName) prog_1_method_9_code (3 : Nat) (Option.some Jvm.ClassFile.FieldType.int)) ∈ zTb := zin3 120 (by decide +kernel) rfl
theorem zw601 : (Jvm.Cond.methodLink "SlowerForTheLate" (151 : Nat) ({ cls := "SlowerForTheLate$Plan", name := "isStart", desc := "(I)Z" } : Jvm.MethodName)) ∈ zTb := zin3 121 (by decide +kernel) rfl
theorem zw602 : (Jvm.Cond.methodLink "SlowerForTheLate" (154 : Nat) ({ cls := "SlowerForTheLate$Plan", name := "isSeats", desc := "(I)Z" } : Jvm.MethodName)) ∈ zTb := zin3 122 (by decide +kernel) rfl
theorem zw603 : (Jvm.Cond.methodLink "SlowerForTheLate" (157 : Nat) ({ cls := "SlowerForTheLate$Plan", name := "addTrain", desc := "(II)Z" } : Jvm.MethodName)) ∈ zTb := zin3 123 (by decide +kernel) rfl
theorem zw607 : (Jvm.Cond.code ({ cls := "SlowerForTheLate", name := "about", desc := "(II)I" } : Jvm.MethodName) prog_1_method_10_code (3 : Nat) (Option.some Jvm.ClassFile.FieldType.int)) ∈ zTb := zin3 127 (by decide +kernel) rfl
theorem zw608 : (Jvm.Cond.methodLink "SlowerForTheLate" (164 : Nat) ({ cls := "SlowerForTheLate$Plan", name := "isTrain", desc := "(I)Z" } : Jvm.MethodName)) ∈ zTb := zin3 128 (by decide +kernel) rfl
theorem zw612 : (Jvm.Cond.code ({ cls := "SlowerForTheLate", name := "cancels", desc := "(I)I" } : Jvm.MethodName) prog_1_method_11_code (2 : Nat) (Option.some Jvm.ClassFile.FieldType.int)) ∈ zTb := zin3 132 (by decide +kernel) rfl
theorem zw613 : (Jvm.Cond.methodLink "SlowerForTheLate" (177 : Nat) ({ cls := "SlowerForTheLate$Plan", name := "turnCancelled", desc := "(I)V" } : Jvm.MethodName)) ∈ zTb := zin3 133 (by decide +kernel) rfl
theorem zw617 : (Jvm.Cond.code ({ cls := "SlowerForTheLate", name := "run", desc := "(II)I" } : Jvm.MethodName) prog_1_method_12_code (4 : Nat) (Option.some Jvm.ClassFile.FieldType.int)) ∈ zTb := zin3 137 (by decide +kernel) rfl
theorem zw618 : (Jvm.Cond.methodLink "SlowerForTheLate" (180 : Nat) ({ cls := "SlowerForTheLate$Plan", name := "isPiece", desc := "(I)Z" } : Jvm.MethodName)) ∈ zTb := zin3 138 (by decide +kernel) rfl
theorem zw619 : (Jvm.Cond.methodLink "SlowerForTheLate" (183 : Nat) ({ cls := "SlowerForTheLate$Plan", name := "isRun", desc := "(I)Z" } : Jvm.MethodName)) ∈ zTb := zin3 139 (by decide +kernel) rfl
theorem zw623 : (Jvm.Cond.code ({ cls := "SlowerForTheLate", name := "set", desc := "(II)I" } : Jvm.MethodName) prog_1_method_13_code (4 : Nat) (Option.some Jvm.ClassFile.FieldType.int)) ∈ zTb := zin3 143 (by decide +kernel) rfl
theorem zw624 : (Jvm.Cond.methodLink "SlowerForTheLate" (189 : Nat) ({ cls := "SlowerForTheLate$Plan", name := "isRule", desc := "(II)Z" } : Jvm.MethodName)) ∈ zTb := zin3 144 (by decide +kernel) rfl
theorem zw628 : (Jvm.Cond.code ({ cls := "SlowerForTheLate", name := "fate", desc := "(II)I" } : Jvm.MethodName) prog_1_method_14_code (3 : Nat) (Option.some Jvm.ClassFile.FieldType.int)) ∈ zTb := zin3 148 (by decide +kernel) rfl
theorem zw629 : (Jvm.Cond.methodLink "SlowerForTheLate" (195 : Nat) ({ cls := "SlowerForTheLate$Trip", name := "go", desc := "(LSlowerForTheLate$Plan;I)V" } : Jvm.MethodName)) ∈ zTb := zin3 149 (by decide +kernel) rfl
theorem zw630 : (Jvm.Cond.instanceMethod ({ cls := "SlowerForTheLate$Trip", name := "go", desc := "(LSlowerForTheLate$Plan;I)V" } : Jvm.MethodName)) ∈ zTb := zin3 150 (by decide +kernel) rfl
theorem zw631 : (Jvm.Cond.selects "SlowerForTheLate$Trip" ({ cls := "SlowerForTheLate$Trip", name := "go", desc := "(LSlowerForTheLate$Plan;I)V" } : Jvm.MethodName) ({ cls := "SlowerForTheLate$Trip", name := "go", desc := "(LSlowerForTheLate$Plan;I)V" } : Jvm.MethodName)) ∈ zTb := zin3 151 (by decide +kernel) rfl
theorem zw632 : (Jvm.Cond.code ({ cls := "SlowerForTheLate$Trip", name := "go", desc := "(LSlowerForTheLate$Plan;I)V" } : Jvm.MethodName) prog_11_method_9_code (5 : Nat) (Option.none : Option Jvm.ClassFile.FieldType)) ∈ zTb := zin3 152 (by decide +kernel) rfl
theorem zw633 : (Jvm.Cond.methodLink "SlowerForTheLate$Trip" (92 : Nat) ({ cls := "SlowerForTheLate$Trip", name := "setPeople", desc := "(LSlowerForTheLate$Plan;)V" } : Jvm.MethodName)) ∈ zTb := zin3 153 (by decide +kernel) rfl
theorem zw635 : (Jvm.Cond.instanceMethod ({ cls := "SlowerForTheLate$Trip", name := "setPeople", desc := "(LSlowerForTheLate$Plan;)V" } : Jvm.MethodName)) ∈ zTb := zin3 155 (by decide +kernel) rfl
theorem zw636 : (Jvm.Cond.code ({ cls := "SlowerForTheLate$Trip", name := "setPeople", desc := "(LSlowerForTheLate$Plan;)V" } : Jvm.MethodName) prog_11_method_10_code (4 : Nat) (Option.none : Option Jvm.ClassFile.FieldType)) ∈ zTb := zin3 156 (by decide +kernel) rfl
theorem zw637 : (Jvm.Cond.methodLink "SlowerForTheLate$Trip" (116 : Nat) ({ cls := "SlowerForTheLate$Walker", name := "comesAt", desc := "(I)I" } : Jvm.MethodName)) ∈ zTb := zin3 157 (by decide +kernel) rfl
theorem zw638 : (Jvm.Cond.methodLink "SlowerForTheLate$Trip" (120 : Nat) ({ cls := "SlowerForTheLate$Walker", name := "rank", desc := "()I" } : Jvm.MethodName)) ∈ zTb := zin3 158 (by decide +kernel) rfl
theorem zw639 : (Jvm.Cond.methodLink "SlowerForTheLate$Trip" (127 : Nat) ({ cls := "SlowerForTheLate$Walker", name := "excuse", desc := "()I" } : Jvm.MethodName)) ∈ zTb := zin3 159 (by decide +kernel) rfl
theorem zw640 : (Jvm.Cond.methodLink "SlowerForTheLate$Trip" (130 : Nat) ({ cls := "SlowerForTheLate$Walker", name := "places", desc := "()I" } : Jvm.MethodName)) ∈ zTb := zin3 160 (by decide +kernel) rfl
theorem zw641 : (Jvm.Cond.methodLink "SlowerForTheLate$Trip" (135 : Nat) ({ cls := "SlowerForTheLate$Walker", name := "offAt", desc := "(I)I" } : Jvm.MethodName)) ∈ zTb := zin3 161 (by decide +kernel) rfl
theorem zw642 : (Jvm.Cond.methodLink "SlowerForTheLate$Trip" (137 : Nat) ({ cls := "SlowerForTheLate$Trip", name := "line", desc := "(I)V" } : Jvm.MethodName)) ∈ zTb := zin3 162 (by decide +kernel) rfl
theorem zw644 : (Jvm.Cond.instanceMethod ({ cls := "SlowerForTheLate$Trip", name := "line", desc := "(I)V" } : Jvm.MethodName)) ∈ zTb := zin3 164 (by decide +kernel) rfl
theorem zw645 : (Jvm.Cond.code ({ cls := "SlowerForTheLate$Trip", name := "line", desc := "(I)V" } : Jvm.MethodName) prog_11_method_11_code (3 : Nat) (Option.none : Option Jvm.ClassFile.FieldType)) ∈ zTb := zin3 165 (by decide +kernel) rfl
theorem zw646 : (Jvm.Cond.methodLink "SlowerForTheLate$Trip" (96 : Nat) ({ cls := "SlowerForTheLate$Trip", name := "setTrains", desc := "(LSlowerForTheLate$Plan;I)V" } : Jvm.MethodName)) ∈ zTb := zin3 166 (by decide +kernel) rfl
theorem zw648 : (Jvm.Cond.instanceMethod ({ cls := "SlowerForTheLate$Trip", name := "setTrains", desc := "(LSlowerForTheLate$Plan;I)V" } : Jvm.MethodName)) ∈ zTb := zin3 168 (by decide +kernel) rfl
theorem zw649 : (Jvm.Cond.code ({ cls := "SlowerForTheLate$Trip", name := "setTrains", desc := "(LSlowerForTheLate$Plan;I)V" } : Jvm.MethodName) prog_11_method_12_code (6 : Nat) (Option.none : Option Jvm.ClassFile.FieldType)) ∈ zTb := zin3 169 (by decide +kernel) rfl
theorem zw650 : (Jvm.Cond.methodLink "SlowerForTheLate$Trip" (70 : Nat) ({ cls := "SlowerForTheLate$Plan", name := "numberOf", desc := "(II)I" } : Jvm.MethodName)) ∈ zTb := zin3 170 (by decide +kernel) rfl
theorem zw651 : (Jvm.Cond.static ({ cls := "SlowerForTheLate$Plan", name := "numberOf", desc := "(II)I" } : Jvm.MethodName)) ∈ zTb := zin3 171 (by decide +kernel) rfl
theorem zw652 : (Jvm.Cond.code ({ cls := "SlowerForTheLate$Plan", name := "numberOf", desc := "(II)I" } : Jvm.MethodName) prog_5_method_9_code (2 : Nat) (Option.some Jvm.ClassFile.FieldType.int)) ∈ zTb := zin3 172 (by decide +kernel) rfl
theorem zw653 : (Jvm.Cond.methodLink "SlowerForTheLate$Trip" (143 : Nat) ({ cls := "SlowerForTheLate$Trip", name := "place", desc := "(III)I" } : Jvm.MethodName)) ∈ zTb := zin3 173 (by decide +kernel) rfl
theorem zw654 : (Jvm.Cond.static ({ cls := "SlowerForTheLate$Trip", name := "place", desc := "(III)I" } : Jvm.MethodName)) ∈ zTb := zin3 174 (by decide +kernel) rfl
theorem zw655 : (Jvm.Cond.code ({ cls := "SlowerForTheLate$Trip", name := "place", desc := "(III)I" } : Jvm.MethodName) prog_11_method_2_code (3 : Nat) (Option.some Jvm.ClassFile.FieldType.int)) ∈ zTb := zin3 175 (by decide +kernel) rfl
theorem zw656 : (Jvm.Cond.methodLink "SlowerForTheLate$Trip" (100 : Nat) ({ cls := "SlowerForTheLate$Trip", name := "orderTrains", desc := "(I)V" } : Jvm.MethodName)) ∈ zTb := zin3 176 (by decide +kernel) rfl
theorem zw658 : (Jvm.Cond.instanceMethod ({ cls := "SlowerForTheLate$Trip", name := "orderTrains", desc := "(I)V" } : Jvm.MethodName)) ∈ zTb := zin3 178 (by decide +kernel) rfl
theorem zw659 : (Jvm.Cond.code ({ cls := "SlowerForTheLate$Trip", name := "orderTrains", desc := "(I)V" } : Jvm.MethodName) prog_11_method_13_code (5 : Nat) (Option.none : Option Jvm.ClassFile.FieldType)) ∈ zTb := zin3 179 (by decide +kernel) rfl
theorem zw660 : (Jvm.Cond.methodLink "SlowerForTheLate$Trip" (150 : Nat) ({ cls := "SlowerForTheLate$Trip", name := "isAhead", desc := "(III)Z" } : Jvm.MethodName)) ∈ zTb := zin3 180 (by decide +kernel) rfl
theorem zw662 : (Jvm.Cond.instanceMethod ({ cls := "SlowerForTheLate$Trip", name := "isAhead", desc := "(III)Z" } : Jvm.MethodName)) ∈ zTb := zin3 182 (by decide +kernel) rfl
theorem zw663 : (Jvm.Cond.code ({ cls := "SlowerForTheLate$Trip", name := "isAhead", desc := "(III)Z" } : Jvm.MethodName) prog_11_method_14_code (6 : Nat) (Option.some Jvm.ClassFile.FieldType.boolean)) ∈ zTb := zin3 183 (by decide +kernel) rfl
theorem zw664 : (Jvm.Cond.methodLink "SlowerForTheLate$Trip" (104 : Nat) ({ cls := "SlowerForTheLate$Trip", name := "atStop", desc := "(LSlowerForTheLate$Plan;II)V" } : Jvm.MethodName)) ∈ zTb := zin3 184 (by decide +kernel) rfl
theorem zw666 : (Jvm.Cond.instanceMethod ({ cls := "SlowerForTheLate$Trip", name := "atStop", desc := "(LSlowerForTheLate$Plan;II)V" } : Jvm.MethodName)) ∈ zTb := zin3 186 (by decide +kernel) rfl
theorem zw667 : (Jvm.Cond.code ({ cls := "SlowerForTheLate$Trip", name := "atStop", desc := "(LSlowerForTheLate$Plan;II)V" } : Jvm.MethodName) prog_11_method_15_code (8 : Nat) (Option.none : Option Jvm.ClassFile.FieldType)) ∈ zTb := zin3 187 (by decide +kernel) rfl
theorem zw668 : (Jvm.Cond.methodLink "SlowerForTheLate$Trip" (154 : Nat) ({ cls := "SlowerForTheLate$Trip", name := "letOff", desc := "(II)Z" } : Jvm.MethodName)) ∈ zTb := zin3 188 (by decide +kernel) rfl
theorem zw670 : (Jvm.Cond.instanceMethod ({ cls := "SlowerForTheLate$Trip", name := "letOff", desc := "(II)Z" } : Jvm.MethodName)) ∈ zTb := zin3 190 (by decide +kernel) rfl
theorem zw671 : (Jvm.Cond.code ({ cls := "SlowerForTheLate$Trip", name := "letOff", desc := "(II)Z" } : Jvm.MethodName) prog_11_method_16_code (5 : Nat) (Option.some Jvm.ClassFile.FieldType.boolean)) ∈ zTb := zin3 191 (by decide +kernel) rfl
theorem zw672 : (Jvm.Cond.methodLink "SlowerForTheLate$Trip" (158 : Nat) ({ cls := "SlowerForTheLate$Trip", name := "letOn", desc := "(LSlowerForTheLate$Plan;II)Z" } : Jvm.MethodName)) ∈ zTb := zin3 192 (by decide +kernel) rfl
theorem zw674 : (Jvm.Cond.instanceMethod ({ cls := "SlowerForTheLate$Trip", name := "letOn", desc := "(LSlowerForTheLate$Plan;II)Z" } : Jvm.MethodName)) ∈ zTb := zin3 194 (by decide +kernel) rfl
theorem zw675 : (Jvm.Cond.code ({ cls := "SlowerForTheLate$Trip", name := "letOn", desc := "(LSlowerForTheLate$Plan;II)Z" } : Jvm.MethodName) prog_11_method_17_code (8 : Nat) (Option.some Jvm.ClassFile.FieldType.boolean)) ∈ zTb := zin3 195 (by decide +kernel) rfl
theorem zw676 : (Jvm.Cond.methodLink "SlowerForTheLate$Trip" (74 : Nat) ({ cls := "SlowerForTheLate$Trip", name := "arrives", desc := "(I)Z" } : Jvm.MethodName)) ∈ zTb := zin3 196 (by decide +kernel) rfl
theorem zw677 : (Jvm.Cond.instanceMethod ({ cls := "SlowerForTheLate$Trip", name := "arrives", desc := "(I)Z" } : Jvm.MethodName)) ∈ zTb := zin3 197 (by decide +kernel) rfl
theorem zw678 : (Jvm.Cond.selects "SlowerForTheLate$Trip" ({ cls := "SlowerForTheLate$Trip", name := "arrives", desc := "(I)Z" } : Jvm.MethodName) ({ cls := "SlowerForTheLate$Trip", name := "arrives", desc := "(I)Z" } : Jvm.MethodName)) ∈ zTb := zin3 198 (by decide +kernel) rfl
theorem zw679 : (Jvm.Cond.code ({ cls := "SlowerForTheLate$Trip", name := "arrives", desc := "(I)Z" } : Jvm.MethodName) prog_11_method_3_code (2 : Nat) (Option.some Jvm.ClassFile.FieldType.boolean)) ∈ zTb := zin3 199 (by decide +kernel) rfl
theorem zw680 : (Jvm.Cond.methodLink "SlowerForTheLate$Trip" (168 : Nat) ({ cls := "SlowerForTheLate$Trip", name := "isLetOn", desc := "(LSlowerForTheLate$Plan;III)Z" } : Jvm.MethodName)) ∈ zTb := zin3 200 (by decide +kernel) rfl
theorem zw682 : (Jvm.Cond.instanceMethod ({ cls := "SlowerForTheLate$Trip", name := "isLetOn", desc := "(LSlowerForTheLate$Plan;III)Z" } : Jvm.MethodName)) ∈ zTb := zin3 202 (by decide +kernel) rfl
theorem zw683 : (Jvm.Cond.code ({ cls := "SlowerForTheLate$Trip", name := "isLetOn", desc := "(LSlowerForTheLate$Plan;III)Z" } : Jvm.MethodName) prog_11_method_18_code (7 : Nat) (Option.some Jvm.ClassFile.FieldType.boolean)) ∈ zTb := zin3 203 (by decide +kernel) rfl
theorem zw684 : (Jvm.Cond.methodLink "SlowerForTheLate$Trip" (172 : Nat) ({ cls := "SlowerForTheLate$Trip", name := "may", desc := "(LSlowerForTheLate$Plan;II)Z" } : Jvm.MethodName)) ∈ zTb := zin3 204 (by decide +kernel) rfl
theorem zw686 : (Jvm.Cond.instanceMethod ({ cls := "SlowerForTheLate$Trip", name := "may", desc := "(LSlowerForTheLate$Plan;II)Z" } : Jvm.MethodName)) ∈ zTb := zin3 206 (by decide +kernel) rfl
theorem zw687 : (Jvm.Cond.code ({ cls := "SlowerForTheLate$Trip", name := "may", desc := "(LSlowerForTheLate$Plan;II)Z" } : Jvm.MethodName) prog_11_method_19_code (4 : Nat) (Option.some Jvm.ClassFile.FieldType.boolean)) ∈ zTb := zin3 207 (by decide +kernel) rfl
theorem zw688 : (Jvm.Cond.methodLink "SlowerForTheLate$Trip" (175 : Nat) ({ cls := "SlowerForTheLate$Walker", name := "boards", desc := "(I)Z" } : Jvm.MethodName)) ∈ zTb := zin3 208 (by decide +kernel) rfl
theorem zw689 : (Jvm.Cond.methodLink "SlowerForTheLate$Trip" (84 : Nat) ({ cls := "java/lang/Math", name := "max", desc := "(II)I" } : Jvm.MethodName)) ∈ zTb := zin3 209 (by decide +kernel) rfl
theorem zw690 : (Jvm.Cond.methodLink "SlowerForTheLate$Trip" (162 : Nat) ({ cls := "SlowerForTheLate$Plan", name := "ride", desc := "(II)I" } : Jvm.MethodName)) ∈ zTb := zin3 210 (by decide +kernel) rfl
theorem zw691 : (Jvm.Cond.instanceMethod ({ cls := "SlowerForTheLate$Plan", name := "ride", desc := "(II)I" } : Jvm.MethodName)) ∈ zTb := zin3 211 (by decide +kernel) rfl
theorem zw692 : (Jvm.Cond.selects "SlowerForTheLate$Plan" ({ cls := "SlowerForTheLate$Plan", name := "ride", desc := "(II)I" } : Jvm.MethodName) ({ cls := "SlowerForTheLate$Plan", name := "ride", desc := "(II)I" } : Jvm.MethodName)) ∈ zTb := zin3 212 (by decide +kernel) rfl
theorem zw693 : (Jvm.Cond.code ({ cls := "SlowerForTheLate$Plan", name := "ride", desc := "(II)I" } : Jvm.MethodName) prog_5_method_18_code (3 : Nat) (Option.some Jvm.ClassFile.FieldType.int)) ∈ zTb := zin3 213 (by decide +kernel) rfl
theorem zw694 : (Jvm.Cond.methodLink "SlowerForTheLate" (199 : Nat) ({ cls := "SlowerForTheLate$Trip", name := "arrives", desc := "(I)Z" } : Jvm.MethodName)) ∈ zTb := zin3 214 (by decide +kernel) rfl
theorem zw695 : (Jvm.Cond.methodLink "SlowerForTheLate" (202 : Nat) ({ cls := "SlowerForTheLate$Trip", name := "missedBy", desc := "(I)I" } : Jvm.MethodName)) ∈ zTb := zin3 215 (by decide +kernel) rfl
theorem zw696 : (Jvm.Cond.instanceMethod ({ cls := "SlowerForTheLate$Trip", name := "missedBy", desc := "(I)I" } : Jvm.MethodName)) ∈ zTb := zin3 216 (by decide +kernel) rfl
theorem zw697 : (Jvm.Cond.selects "SlowerForTheLate$Trip" ({ cls := "SlowerForTheLate$Trip", name := "missedBy", desc := "(I)I" } : Jvm.MethodName) ({ cls := "SlowerForTheLate$Trip", name := "missedBy", desc := "(I)I" } : Jvm.MethodName)) ∈ zTb := zin3 217 (by decide +kernel) rfl
theorem zw698 : (Jvm.Cond.code ({ cls := "SlowerForTheLate$Trip", name := "missedBy", desc := "(I)I" } : Jvm.MethodName) prog_11_method_5_code (2 : Nat) (Option.some Jvm.ClassFile.FieldType.int)) ∈ zTb := zin3 218 (by decide +kernel) rfl
theorem zw699 : (Jvm.Cond.methodLink "SlowerForTheLate$Trip" (78 : Nat) ({ cls := "java/lang/Integer", name := "bitCount", desc := "(I)I" } : Jvm.MethodName)) ∈ zTb := zin3 219 (by decide +kernel) rfl
theorem zw700 : (Jvm.Cond.static ({ cls := "java/lang/Integer", name := "bitCount", desc := "(I)I" } : Jvm.MethodName)) ∈ zTb := zin3 220 (by decide +kernel) rfl
theorem zw701 : (Jvm.Cond.code ({ cls := "java/lang/Integer", name := "bitCount", desc := "(I)I" } : Jvm.MethodName) prog_18_method_49_code (1 : Nat) (Option.some Jvm.ClassFile.FieldType.int)) ∈ zTb := zin3 221 (by decide +kernel) rfl
theorem zw702 : (Jvm.Cond.constant "java/lang/Integer" (265 : Nat) (1431655765 : Int32)) ∈ zTb := zin3 222 (by decide +kernel) rfl
theorem zw703 : (Jvm.Cond.constant "java/lang/Integer" (266 : Nat) (858993459 : Int32)) ∈ zTb := zin3 223 (by decide +kernel) rfl
theorem zw704 : (Jvm.Cond.constant "java/lang/Integer" (267 : Nat) (252645135 : Int32)) ∈ zTb := zin3 224 (by decide +kernel) rfl
theorem zw705 : (Jvm.Cond.methodLink "SlowerForTheLate" (208 : Nat) ({ cls := "SlowerForTheLate", name := "rideOf", desc := "(II)I" } : Jvm.MethodName)) ∈ zTb := zin3 225 (by decide +kernel) rfl
theorem zw707 : (Jvm.Cond.instanceMethod ({ cls := "SlowerForTheLate", name := "rideOf", desc := "(II)I" } : Jvm.MethodName)) ∈ zTb := zin3 227 (by decide +kernel) rfl
theorem zw708 : (Jvm.Cond.code ({ cls := "SlowerForTheLate", name := "rideOf", desc := "(II)I" } : Jvm.MethodName) prog_1_method_60_code (3 : Nat) (Option.some Jvm.ClassFile.FieldType.int)) ∈ zTb := zin3 228 (by decide +kernel) rfl
theorem zw712 : (Jvm.Cond.code ({ cls := "SlowerForTheLate", name := "when", desc := "(III)I" } : Jvm.MethodName) prog_1_method_15_code (4 : Nat) (Option.some Jvm.ClassFile.FieldType.int)) ∈ zTb := zin3 232 (by decide +kernel) rfl
theorem zw713 : (Jvm.Cond.methodLink "SlowerForTheLate" (215 : Nat) ({ cls := "SlowerForTheLate$Trip", name := "place", desc := "(III)I" } : Jvm.MethodName)) ∈ zTb := zin3 233 (by decide +kernel) rfl
theorem zw717 : (Jvm.Cond.code ({ cls := "SlowerForTheLate", name := "sums", desc := "(I)I" } : Jvm.MethodName) prog_1_method_16_code (2 : Nat) (Option.some Jvm.ClassFile.FieldType.int)) ∈ zTb := zin3 237 (by decide +kernel) rfl
theorem zw718 : (Jvm.Cond.methodLink "SlowerForTheLate" (219 : Nat) ({ cls := "SlowerForTheLate$Trip", name := "arriving", desc := "()I" } : Jvm.MethodName)) ∈ zTb := zin3 238 (by decide +kernel) rfl
theorem zw719 : (Jvm.Cond.instanceMethod ({ cls := "SlowerForTheLate$Trip", name := "arriving", desc := "()I" } : Jvm.MethodName)) ∈ zTb := zin3 239 (by decide +kernel) rfl
theorem zw720 : (Jvm.Cond.selects "SlowerForTheLate$Trip" ({ cls := "SlowerForTheLate$Trip", name := "arriving", desc := "()I" } : Jvm.MethodName) ({ cls := "SlowerForTheLate$Trip", name := "arriving", desc := "()I" } : Jvm.MethodName)) ∈ zTb := zin4 0 (by decide +kernel) rfl
theorem zw721 : (Jvm.Cond.code ({ cls := "SlowerForTheLate$Trip", name := "arriving", desc := "()I" } : Jvm.MethodName) prog_11_method_6_code (3 : Nat) (Option.some Jvm.ClassFile.FieldType.int)) ∈ zTb := zin4 1 (by decide +kernel) rfl
theorem zw722 : (Jvm.Cond.methodLink "SlowerForTheLate" (222 : Nat) ({ cls := "SlowerForTheLate", name := "allMissed", desc := "()I" } : Jvm.MethodName)) ∈ zTb := zin4 2 (by decide +kernel) rfl
theorem zw724 : (Jvm.Cond.instanceMethod ({ cls := "SlowerForTheLate", name := "allMissed", desc := "()I" } : Jvm.MethodName)) ∈ zTb := zin4 4 (by decide +kernel) rfl
theorem zw725 : (Jvm.Cond.code ({ cls := "SlowerForTheLate", name := "allMissed", desc := "()I" } : Jvm.MethodName) prog_1_method_61_code (3 : Nat) (Option.some Jvm.ClassFile.FieldType.int)) ∈ zTb := zin4 5 (by decide +kernel) rfl
theorem zw726 : (Jvm.Cond.methodLink "SlowerForTheLate" (225 : Nat) ({ cls := "SlowerForTheLate", name := "allWaited", desc := "()I" } : Jvm.MethodName)) ∈ zTb := zin4 6 (by decide +kernel) rfl
theorem zw728 : (Jvm.Cond.instanceMethod ({ cls := "SlowerForTheLate", name := "allWaited", desc := "()I" } : Jvm.MethodName)) ∈ zTb := zin4 8 (by decide +kernel) rfl
theorem zw729 : (Jvm.Cond.code ({ cls := "SlowerForTheLate", name := "allWaited", desc := "()I" } : Jvm.MethodName) prog_1_method_62_code (3 : Nat) (Option.some Jvm.ClassFile.FieldType.int)) ∈ zTb := zin4 9 (by decide +kernel) rfl
theorem zw730 : (Jvm.Cond.methodLink "SlowerForTheLate" (228 : Nat) ({ cls := "SlowerForTheLate", name := "allRefunds", desc := "()I" } : Jvm.MethodName)) ∈ zTb := zin4 10 (by decide +kernel) rfl
theorem zw732 : (Jvm.Cond.instanceMethod ({ cls := "SlowerForTheLate", name := "allRefunds", desc := "()I" } : Jvm.MethodName)) ∈ zTb := zin4 12 (by decide +kernel) rfl
theorem zw733 : (Jvm.Cond.code ({ cls := "SlowerForTheLate", name := "allRefunds", desc := "()I" } : Jvm.MethodName) prog_1_method_63_code (3 : Nat) (Option.some Jvm.ClassFile.FieldType.int)) ∈ zTb := zin4 13 (by decide +kernel) rfl
theorem zw734 : (Jvm.Cond.methodLink "SlowerForTheLate" (231 : Nat) ({ cls := "SlowerForTheLate$Trip", name := "latest", desc := "()I" } : Jvm.MethodName)) ∈ zTb := zin4 14 (by decide +kernel) rfl
theorem zw735 : (Jvm.Cond.instanceMethod ({ cls := "SlowerForTheLate$Trip", name := "latest", desc := "()I" } : Jvm.MethodName)) ∈ zTb := zin4 15 (by decide +kernel) rfl
theorem zw736 : (Jvm.Cond.selects "SlowerForTheLate$Trip" ({ cls := "SlowerForTheLate$Trip", name := "latest", desc := "()I" } : Jvm.MethodName) ({ cls := "SlowerForTheLate$Trip", name := "latest", desc := "()I" } : Jvm.MethodName)) ∈ zTb := zin4 16 (by decide +kernel) rfl
theorem zw737 : (Jvm.Cond.code ({ cls := "SlowerForTheLate$Trip", name := "latest", desc := "()I" } : Jvm.MethodName) prog_11_method_7_code (3 : Nat) (Option.some Jvm.ClassFile.FieldType.int)) ∈ zTb := zin4 17 (by decide +kernel) rfl
theorem zw741 : (Jvm.Cond.code ({ cls := "SlowerForTheLate", name := "aboard", desc := "(III)I" } : Jvm.MethodName) prog_1_method_17_code (4 : Nat) (Option.some Jvm.ClassFile.FieldType.int)) ∈ zTb := zin4 21 (by decide +kernel) rfl
theorem zw745 : (Jvm.Cond.code ({ cls := "SlowerForTheLate", name := "fullest", desc := "(II)I" } : Jvm.MethodName) prog_1_method_18_code (3 : Nat) (Option.some Jvm.ClassFile.FieldType.int)) ∈ zTb := zin4 25 (by decide +kernel) rfl
theorem zw746 : (Jvm.Cond.methodLink "SlowerForTheLate" (240 : Nat) ({ cls := "SlowerForTheLate$Plan", name := "numberOf", desc := "(II)I" } : Jvm.MethodName)) ∈ zTb := zin4 26 (by decide +kernel) rfl
theorem zw750 : (Jvm.Cond.code ({ cls := "SlowerForTheLate", name := "later", desc := "(II)I" } : Jvm.MethodName) prog_1_method_19_code (7 : Nat) (Option.some Jvm.ClassFile.FieldType.int)) ∈ zTb := zin4 30 (by decide +kernel) rfl
theorem zw751 : (Jvm.Cond.methodLink "SlowerForTheLate" (243 : Nat) ({ cls := "SlowerForTheLate", name := "arrivalFrom", desc := "(II)I" } : Jvm.MethodName)) ∈ zTb := zin4 31 (by decide +kernel) rfl
theorem zw753 : (Jvm.Cond.instanceMethod ({ cls := "SlowerForTheLate", name := "arrivalFrom", desc := "(II)I" } : Jvm.MethodName)) ∈ zTb := zin4 33 (by decide +kernel) rfl
theorem zw754 : (Jvm.Cond.code ({ cls := "SlowerForTheLate", name := "arrivalFrom", desc := "(II)I" } : Jvm.MethodName) prog_1_method_65_code (3 : Nat) (Option.some Jvm.ClassFile.FieldType.int)) ∈ zTb := zin4 34 (by decide +kernel) rfl
theorem zw755 : (Jvm.Cond.methodLink "SlowerForTheLate" (251 : Nat) ({ cls := "SlowerForTheLate$Trip", name := "arrivalOf", desc := "(I)I" } : Jvm.MethodName)) ∈ zTb := zin4 35 (by decide +kernel) rfl
theorem zw756 : (Jvm.Cond.instanceMethod ({ cls := "SlowerForTheLate$Trip", name := "arrivalOf", desc := "(I)I" } : Jvm.MethodName)) ∈ zTb := zin4 36 (by decide +kernel) rfl
theorem zw757 : (Jvm.Cond.selects "SlowerForTheLate$Trip" ({ cls := "SlowerForTheLate$Trip", name := "arrivalOf", desc := "(I)I" } : Jvm.MethodName) ({ cls := "SlowerForTheLate$Trip", name := "arrivalOf", desc := "(I)I" } : Jvm.MethodName)) ∈ zTb := zin4 37 (by decide +kernel) rfl
theorem zw758 : (Jvm.Cond.code ({ cls := "SlowerForTheLate$Trip", name := "arrivalOf", desc := "(I)I" } : Jvm.MethodName) prog_11_method_4_code (2 : Nat) (Option.some Jvm.ClassFile.FieldType.int)) ∈ zTb := zin4 38 (by decide +kernel) rfl
theorem zw762 : (Jvm.Cond.code ({ cls := "SlowerForTheLate", name := "slack", desc := "(I)I" } : Jvm.MethodName) prog_1_method_20_code (4 : Nat) (Option.some Jvm.ClassFile.FieldType.int)) ∈ zTb := zin4 42 (by decide +kernel) rfl
theorem zw766 : (Jvm.Cond.code ({ cls := "SlowerForTheLate", name := "odds", desc := "(I)I" } : Jvm.MethodName) prog_1_method_21_code (4 : Nat) (Option.some Jvm.ClassFile.FieldType.int)) ∈ zTb := zin4 46 (by decide +kernel) rfl
theorem zw770 : (Jvm.Cond.code ({ cls := "SlowerForTheLate", name := "mean", desc := "(II)J" } : Jvm.MethodName) prog_1_method_22_code (7 : Nat) (Option.some Jvm.ClassFile.FieldType.long)) ∈ zTb := zin4 50 (by decide +kernel) rfl
theorem zw771 : (Jvm.Cond.constantLong "SlowerForTheLate" (246 : Nat) (-1000000001 : Int64)) ∈ zTb := zin4 51 (by decide +kernel) rfl
theorem zw772 : (Jvm.Cond.methodLink "SlowerForTheLate" (248 : Nat) ({ cls := "SlowerForTheLate", name := "inLeastTerms", desc := "(III)I" } : Jvm.MethodName)) ∈ zTb := zin4 52 (by decide +kernel) rfl
theorem zw773 : (Jvm.Cond.static ({ cls := "SlowerForTheLate", name := "inLeastTerms", desc := "(III)I" } : Jvm.MethodName)) ∈ zTb := zin4 53 (by decide +kernel) rfl
theorem zw774 : (Jvm.Cond.code ({ cls := "SlowerForTheLate", name := "inLeastTerms", desc := "(III)I" } : Jvm.MethodName) prog_1_method_70_code (4 : Nat) (Option.some Jvm.ClassFile.FieldType.int)) ∈ zTb := zin4 54 (by decide +kernel) rfl
theorem zw778 : (Jvm.Cond.code ({ cls := "SlowerForTheLate", name := "two", desc := "(II)I" } : Jvm.MethodName) prog_1_method_23_code (5 : Nat) (Option.some Jvm.ClassFile.FieldType.int)) ∈ zTb := zin4 58 (by decide +kernel) rfl
theorem zw779 : (Jvm.Cond.methodLink "SlowerForTheLate" (254 : Nat) ({ cls := "SlowerForTheLate", name := "neitherGains", desc := "(II)Z" } : Jvm.MethodName)) ∈ zTb := zin4 59 (by decide +kernel) rfl
theorem zw781 : (Jvm.Cond.instanceMethod ({ cls := "SlowerForTheLate", name := "neitherGains", desc := "(II)Z" } : Jvm.MethodName)) ∈ zTb := zin4 61 (by decide +kernel) rfl
theorem zw782 : (Jvm.Cond.code ({ cls := "SlowerForTheLate", name := "neitherGains", desc := "(II)Z" } : Jvm.MethodName) prog_1_method_68_code (6 : Nat) (Option.some Jvm.ClassFile.FieldType.boolean)) ∈ zTb := zin4 62 (by decide +kernel) rfl
theorem zw786 : (Jvm.Cond.code ({ cls := "SlowerForTheLate", name := "whose", desc := "(I)I" } : Jvm.MethodName) prog_1_method_24_code (5 : Nat) (Option.some Jvm.ClassFile.FieldType.int)) ∈ zTb := zin4 66 (by decide +kernel) rfl
theorem zw790 : (Jvm.Cond.code ({ cls := "SlowerForTheLate", name := "together", desc := "(II)I" } : Jvm.MethodName) prog_1_method_25_code (5 : Nat) (Option.some Jvm.ClassFile.FieldType.int)) ∈ zTb := zin4 70 (by decide +kernel) rfl
theorem zw791 : (Jvm.Cond.methodLink "SlowerForTheLate" (263 : Nat) ({ cls := "java/lang/Math", name := "max", desc := "(II)I" } : Jvm.MethodName)) ∈ zTb := zin4 71 (by decide +kernel) rfl
theorem zw792 : (Jvm.Cond.methodLink "SlowerForTheLate" (271 : Nat) ({ cls := "java/lang/Math", name := "min", desc := "(II)I" } : Jvm.MethodName)) ∈ zTb := zin4 72 (by decide +kernel) rfl
theorem zw796 : (Jvm.Cond.code ({ cls := "SlowerForTheLate", name := "cancel", desc := "(I)I" } : Jvm.MethodName) prog_1_method_26_code (3 : Nat) (Option.some Jvm.ClassFile.FieldType.int)) ∈ zTb := zin4 76 (by decide +kernel) rfl
theorem zw797 : (Jvm.Cond.constant "SlowerForTheLate" (274 : Nat) (-1000000001 : Int32)) ∈ zTb := zin4 77 (by decide +kernel) rfl
theorem zw801 : (Jvm.Cond.code ({ cls := "SlowerForTheLate", name := "strike", desc := "()I" } : Jvm.MethodName) prog_1_method_27_code (1 : Nat) (Option.some Jvm.ClassFile.FieldType.int)) ∈ zTb := zin4 81 (by decide +kernel) rfl
theorem zw805 : (Jvm.Cond.code ({ cls := "SlowerForTheLate", name := "snow", desc := "(I)I" } : Jvm.MethodName) prog_1_method_28_code (3 : Nat) (Option.some Jvm.ClassFile.FieldType.int)) ∈ zTb := zin4 85 (by decide +kernel) rfl
theorem zw809 : (Jvm.Cond.code ({ cls := "SlowerForTheLate", name := "law", desc := "(I)I" } : Jvm.MethodName) prog_1_method_29_code (3 : Nat) (Option.some Jvm.ClassFile.FieldType.int)) ∈ zTb := zin4 89 (by decide +kernel) rfl
theorem zw810 : (Jvm.Cond.methodLink "SlowerForTheLate" (275 : Nat) ({ cls := "SlowerForTheLate", name := "arrivingWithLate", desc := "(I)I" } : Jvm.MethodName)) ∈ zTb := zin4 90 (by decide +kernel) rfl
theorem zw812 : (Jvm.Cond.instanceMethod ({ cls := "SlowerForTheLate", name := "arrivingWithLate", desc := "(I)I" } : Jvm.MethodName)) ∈ zTb := zin4 92 (by decide +kernel) rfl
theorem zw813 : (Jvm.Cond.code ({ cls := "SlowerForTheLate", name := "arrivingWithLate", desc := "(I)I" } : Jvm.MethodName) prog_1_method_66_code (2 : Nat) (Option.some Jvm.ClassFile.FieldType.int)) ∈ zTb := zin4 93 (by decide +kernel) rfl
theorem zw817 : (Jvm.Cond.code ({ cls := "SlowerForTheLate", name := "bestLate", desc := "()I" } : Jvm.MethodName) prog_1_method_30_code (5 : Nat) (Option.some Jvm.ClassFile.FieldType.int)) ∈ zTb := zin4 97 (by decide +kernel) rfl
theorem zw821 : (Jvm.Cond.code ({ cls := "SlowerForTheLate", name := "worth", desc := "()I" } : Jvm.MethodName) prog_1_method_31_code (1 : Nat) (Option.some Jvm.ClassFile.FieldType.int)) ∈ zTb := zin4 101 (by decide +kernel) rfl
theorem zw822 : (Jvm.Cond.methodLink "SlowerForTheLate" (278 : Nat) ({ cls := "SlowerForTheLate$Trip", name := "allArrivals", desc := "()I" } : Jvm.MethodName)) ∈ zTb := zin4 102 (by decide +kernel) rfl
theorem zw823 : (Jvm.Cond.instanceMethod ({ cls := "SlowerForTheLate$Trip", name := "allArrivals", desc := "()I" } : Jvm.MethodName)) ∈ zTb := zin4 103 (by decide +kernel) rfl
theorem zw824 : (Jvm.Cond.selects "SlowerForTheLate$Trip" ({ cls := "SlowerForTheLate$Trip", name := "allArrivals", desc := "()I" } : Jvm.MethodName) ({ cls := "SlowerForTheLate$Trip", name := "allArrivals", desc := "()I" } : Jvm.MethodName)) ∈ zTb := zin4 104 (by decide +kernel) rfl
theorem zw825 : (Jvm.Cond.code ({ cls := "SlowerForTheLate$Trip", name := "allArrivals", desc := "()I" } : Jvm.MethodName) prog_11_method_8_code (3 : Nat) (Option.some Jvm.ClassFile.FieldType.int)) ∈ zTb := zin4 105 (by decide +kernel) rfl
theorem zw826 : (Jvm.Cond.methodLink "SlowerForTheLate$Trip" (89 : Nat) ({ cls := "SlowerForTheLate$Trip", name := "arrivalOf", desc := "(I)I" } : Jvm.MethodName)) ∈ zTb := zin4 106 (by decide +kernel) rfl
theorem zw830 : (Jvm.Cond.code ({ cls := "SlowerForTheLate", name := "bestGap", desc := "()I" } : Jvm.MethodName) prog_1_method_32_code (5 : Nat) (Option.some Jvm.ClassFile.FieldType.int)) ∈ zTb := zin4 110 (by decide +kernel) rfl
theorem zw831 : (Jvm.Cond.constant "SlowerForTheLate" (281 : Nat) (1000000 : Int32)) ∈ zTb := zin4 111 (by decide +kernel) rfl
theorem zw835 : (Jvm.Cond.code ({ cls := "SlowerForTheLate", name := "bestStart", desc := "(I)I" } : Jvm.MethodName) prog_1_method_33_code (4 : Nat) (Option.some Jvm.ClassFile.FieldType.int)) ∈ zTb := zin4 115 (by decide +kernel) rfl
theorem zw836 : (Jvm.Cond.methodLink "SlowerForTheLate" (282 : Nat) ({ cls := "SlowerForTheLate", name := "startOfLeastWorth", desc := "(IIII)I" } : Jvm.MethodName)) ∈ zTb := zin4 116 (by decide +kernel) rfl
theorem zw838 : (Jvm.Cond.instanceMethod ({ cls := "SlowerForTheLate", name := "startOfLeastWorth", desc := "(IIII)I" } : Jvm.MethodName)) ∈ zTb := zin4 118 (by decide +kernel) rfl
theorem zw839 : (Jvm.Cond.code ({ cls := "SlowerForTheLate", name := "startOfLeastWorth", desc := "(IIII)I" } : Jvm.MethodName) prog_1_method_67_code (9 : Nat) (Option.some Jvm.ClassFile.FieldType.int)) ∈ zTb := zin4 119 (by decide +kernel) rfl
theorem zw843 : (Jvm.Cond.code ({ cls := "SlowerForTheLate", name := "need", desc := "(I)I" } : Jvm.MethodName) prog_1_method_34_code (3 : Nat) (Option.some Jvm.ClassFile.FieldType.int)) ∈ zTb := zin4 123 (by decide +kernel) rfl
theorem zw847 : (Jvm.Cond.code ({ cls := "SlowerForTheLate", name := "extra", desc := "()I" } : Jvm.MethodName) prog_1_method_35_code (1 : Nat) (Option.some Jvm.ClassFile.FieldType.int)) ∈ zTb := zin4 127 (by decide +kernel) rfl
theorem zw851 : (Jvm.Cond.code ({ cls := "SlowerForTheLate", name := "tickets", desc := "(II)I" } : Jvm.MethodName) prog_1_method_36_code (8 : Nat) (Option.some Jvm.ClassFile.FieldType.int)) ∈ zTb := zin4 131 (by decide +kernel) rfl
theorem zw852 : (Jvm.Cond.methodLink "SlowerForTheLate" (286 : Nat) ({ cls := "SlowerForTheLate", name := "refusalOfTickets", desc := "(I)I" } : Jvm.MethodName)) ∈ zTb := zin4 132 (by decide +kernel) rfl
theorem zw854 : (Jvm.Cond.instanceMethod ({ cls := "SlowerForTheLate", name := "refusalOfTickets", desc := "(I)I" } : Jvm.MethodName)) ∈ zTb := zin4 134 (by decide +kernel) rfl
theorem zw855 : (Jvm.Cond.code ({ cls := "SlowerForTheLate", name := "refusalOfTickets", desc := "(I)I" } : Jvm.MethodName) prog_1_method_55_code (3 : Nat) (Option.some Jvm.ClassFile.FieldType.int)) ∈ zTb := zin4 135 (by decide +kernel) rfl
theorem zw856 : (Jvm.Cond.methodLink "SlowerForTheLate" (289 : Nat) ({ cls := "SlowerForTheLate", name := "firstMisfit", desc := "(LSlowerForTheLate$Row;I)I" } : Jvm.MethodName)) ∈ zTb := zin4 136 (by decide +kernel) rfl
theorem zw858 : (Jvm.Cond.instanceMethod ({ cls := "SlowerForTheLate", name := "firstMisfit", desc := "(LSlowerForTheLate$Row;I)I" } : Jvm.MethodName)) ∈ zTb := zin4 138 (by decide +kernel) rfl
theorem zw859 : (Jvm.Cond.code ({ cls := "SlowerForTheLate", name := "firstMisfit", desc := "(LSlowerForTheLate$Row;I)I" } : Jvm.MethodName) prog_1_method_69_code (4 : Nat) (Option.some Jvm.ClassFile.FieldType.int)) ∈ zTb := zin4 139 (by decide +kernel) rfl
theorem zw860 : (Jvm.Cond.methodLink "SlowerForTheLate" (293 : Nat) ({ cls := "SlowerForTheLate$Row", name := "isSkipped", desc := "(I)Z" } : Jvm.MethodName)) ∈ zTb := zin4 140 (by decide +kernel) rfl
theorem zw861 : (Jvm.Cond.instanceMethod ({ cls := "SlowerForTheLate$Row", name := "isSkipped", desc := "(I)Z" } : Jvm.MethodName)) ∈ zTb := zin4 141 (by decide +kernel) rfl
theorem zw862 : (Jvm.Cond.selects "SlowerForTheLate$Row" ({ cls := "SlowerForTheLate$Row", name := "isSkipped", desc := "(I)Z" } : Jvm.MethodName) ({ cls := "SlowerForTheLate$Row", name := "isSkipped", desc := "(I)Z" } : Jvm.MethodName)) ∈ zTb := zin4 142 (by decide +kernel) rfl
theorem zw863 : (Jvm.Cond.code ({ cls := "SlowerForTheLate$Row", name := "isSkipped", desc := "(I)Z" } : Jvm.MethodName) prog_6_method_8_code (2 : Nat) (Option.some Jvm.ClassFile.FieldType.boolean)) ∈ zTb := zin4 143 (by decide +kernel) rfl
theorem zw864 : (Jvm.Cond.constant "SlowerForTheLate$Row" (28 : Nat) (-2147483648 : Int32)) ∈ zTb := zin4 144 (by decide +kernel) rfl
theorem zw868 : (Jvm.Cond.code ({ cls := "SlowerForTheLate", name := "forged", desc := "(I)I" } : Jvm.MethodName) prog_1_method_37_code (6 : Nat) (Option.some Jvm.ClassFile.FieldType.int)) ∈ zTb := zin4 148 (by decide +kernel) rfl
theorem zw872 : (Jvm.Cond.code ({ cls := "SlowerForTheLate", name := "came", desc := "(III)I" } : Jvm.MethodName) prog_1_method_38_code (7 : Nat) (Option.some Jvm.ClassFile.FieldType.int)) ∈ zTb := zin4 152 (by decide +kernel) rfl
theorem zw876 : (Jvm.Cond.code ({ cls := "SlowerForTheLate", name := "sure", desc := "(II)I" } : Jvm.MethodName) prog_1_method_39_code (7 : Nat) (Option.some Jvm.ClassFile.FieldType.int)) ∈ zTb := zin4 156 (by decide +kernel) rfl
theorem zw880 : (Jvm.Cond.code ({ cls := "SlowerForTheLate", name := "judge", desc := "(II)I" } : Jvm.MethodName) prog_1_method_40_code (6 : Nat) (Option.some Jvm.ClassFile.FieldType.int)) ∈ zTb := zin4 160 (by decide +kernel) rfl
theorem zw881 : (Jvm.Cond.methodLink "SlowerForTheLate" (296 : Nat) ({ cls := "SlowerForTheLate", name := "whereabouts", desc := "(II)I" } : Jvm.MethodName)) ∈ zTb := zin4 161 (by decide +kernel) rfl
theorem zw883 : (Jvm.Cond.instanceMethod ({ cls := "SlowerForTheLate", name := "whereabouts", desc := "(II)I" } : Jvm.MethodName)) ∈ zTb := zin4 163 (by decide +kernel) rfl
theorem zw884 : (Jvm.Cond.code ({ cls := "SlowerForTheLate", name := "whereabouts", desc := "(II)I" } : Jvm.MethodName) prog_1_method_64_code (3 : Nat) (Option.some Jvm.ClassFile.FieldType.int)) ∈ zTb := zin4 164 (by decide +kernel) rfl
theorem zw888 : (Jvm.Cond.code ({ cls := "SlowerForTheLate", name := "mornings", desc := "(III)I" } : Jvm.MethodName) prog_1_method_41_code (8 : Nat) (Option.some Jvm.ClassFile.FieldType.int)) ∈ zTb := zin4 168 (by decide +kernel) rfl
theorem zw889 : (Jvm.Cond.constant "SlowerForTheLate" (299 : Nat) (1103515245 : Int32)) ∈ zTb := zin4 169 (by decide +kernel) rfl
theorem zw890 : (Jvm.Cond.constant "SlowerForTheLate" (300 : Nat) (2147483647 : Int32)) ∈ zTb := zin4 170 (by decide +kernel) rfl
theorem zw891 : (Jvm.Cond.constant "SlowerForTheLate" (301 : Nat) (65536 : Int32)) ∈ zTb := zin4 171 (by decide +kernel) rfl
theorem zw895 : (Jvm.Cond.code ({ cls := "SlowerForTheLate", name := "image", desc := "()I" } : Jvm.MethodName) prog_1_method_42_code (1 : Nat) (Option.some Jvm.ClassFile.FieldType.int)) ∈ zTb := zin4 175 (by decide +kernel) rfl
theorem zw899 : (Jvm.Cond.code ({ cls := "SlowerForTheLate", name := "restore", desc := "()I" } : Jvm.MethodName) prog_1_method_43_code (1 : Nat) (Option.some Jvm.ClassFile.FieldType.int)) ∈ zTb := zin4 179 (by decide +kernel) rfl
theorem zw903 : (Jvm.Cond.code ({ cls := "SlowerForTheLate", name := "count", desc := "(I)I" } : Jvm.MethodName) prog_1_method_44_code (2 : Nat) (Option.some Jvm.ClassFile.FieldType.int)) ∈ zTb := zin4 183 (by decide +kernel) rfl
theorem zw904 : (Jvm.Cond.methodLink "SlowerForTheLate" (302 : Nat) ({ cls := "SlowerForTheLate$Plan", name := "cancelledBits", desc := "()I" } : Jvm.MethodName)) ∈ zTb := zin4 184 (by decide +kernel) rfl
theorem zw905 : (Jvm.Cond.instanceMethod ({ cls := "SlowerForTheLate$Plan", name := "cancelledBits", desc := "()I" } : Jvm.MethodName)) ∈ zTb := zin4 185 (by decide +kernel) rfl
theorem zw906 : (Jvm.Cond.selects "SlowerForTheLate$Plan" ({ cls := "SlowerForTheLate$Plan", name := "cancelledBits", desc := "()I" } : Jvm.MethodName) ({ cls := "SlowerForTheLate$Plan", name := "cancelledBits", desc := "()I" } : Jvm.MethodName)) ∈ zTb := zin4 186 (by decide +kernel) rfl
theorem zw907 : (Jvm.Cond.code ({ cls := "SlowerForTheLate$Plan", name := "cancelledBits", desc := "()I" } : Jvm.MethodName) prog_5_method_16_code (3 : Nat) (Option.some Jvm.ClassFile.FieldType.int)) ∈ zTb := zin4 187 (by decide +kernel) rfl
theorem zw908 : (Jvm.Cond.methodLink "SlowerForTheLate" (305 : Nat) ({ cls := "SlowerForTheLate$Plan", name := "allRuns", desc := "()I" } : Jvm.MethodName)) ∈ zTb := zin4 188 (by decide +kernel) rfl
theorem zw909 : (Jvm.Cond.instanceMethod ({ cls := "SlowerForTheLate$Plan", name := "allRuns", desc := "()I" } : Jvm.MethodName)) ∈ zTb := zin4 189 (by decide +kernel) rfl
theorem zw910 : (Jvm.Cond.selects "SlowerForTheLate$Plan" ({ cls := "SlowerForTheLate$Plan", name := "allRuns", desc := "()I" } : Jvm.MethodName) ({ cls := "SlowerForTheLate$Plan", name := "allRuns", desc := "()I" } : Jvm.MethodName)) ∈ zTb := zin4 190 (by decide +kernel) rfl
theorem zw911 : (Jvm.Cond.code ({ cls := "SlowerForTheLate$Plan", name := "allRuns", desc := "()I" } : Jvm.MethodName) prog_5_method_17_code (6 : Nat) (Option.some Jvm.ClassFile.FieldType.int)) ∈ zTb := zin4 191 (by decide +kernel) rfl
theorem zw915 : (Jvm.Cond.code ({ cls := "SlowerForTheLate", name := "keep", desc := "(IIII)I" } : Jvm.MethodName) prog_1_method_45_code (5 : Nat) (Option.some Jvm.ClassFile.FieldType.int)) ∈ zTb := zin4 195 (by decide +kernel) rfl
theorem zw916 : (Jvm.Cond.methodLink "SlowerForTheLate" (308 : Nat) ({ cls := "SlowerForTheLate$Walker", name := "isKind", desc := "(I)Z" } : Jvm.MethodName)) ∈ zTb := zin4 196 (by decide +kernel) rfl
theorem zw917 : (Jvm.Cond.methodLink "SlowerForTheLate" (311 : Nat) ({ cls := "SlowerForTheLate$Walker", name := "isFigure", desc := "(I)Z" } : Jvm.MethodName)) ∈ zTb := zin4 197 (by decide +kernel) rfl
theorem zw918 : (Jvm.Cond.methodLink "SlowerForTheLate" (314 : Nat) ({ cls := "SlowerForTheLate$Walker", name := "ofKind", desc := "(II)LSlowerForTheLate$Walker;" } : Jvm.MethodName)) ∈ zTb := zin4 198 (by decide +kernel) rfl
theorem zw922 : (Jvm.Cond.code ({ cls := "SlowerForTheLate", name := "row", desc := "(III)I" } : Jvm.MethodName) prog_1_method_46_code (4 : Nat) (Option.some Jvm.ClassFile.FieldType.int)) ∈ zTb := zin4 202 (by decide +kernel) rfl
theorem zw923 : (Jvm.Cond.instantiable "SlowerForTheLate$Row" (2 : Nat)) ∈ zTb := zin4 203 (by decide +kernel) rfl
theorem zw924 : (Jvm.Cond.methodLink "SlowerForTheLate" (318 : Nat) ({ cls := "SlowerForTheLate$Row", name := "<init>", desc := "(II)V" } : Jvm.MethodName)) ∈ zTb := zin4 204 (by decide +kernel) rfl
theorem zw925 : (Jvm.Cond.instanceMethod ({ cls := "SlowerForTheLate$Row", name := "<init>", desc := "(II)V" } : Jvm.MethodName)) ∈ zTb := zin4 205 (by decide +kernel) rfl
theorem zw926 : (Jvm.Cond.code ({ cls := "SlowerForTheLate$Row", name := "<init>", desc := "(II)V" } : Jvm.MethodName) prog_6_method_1_code (3 : Nat) (Option.none : Option Jvm.ClassFile.FieldType)) ∈ zTb := zin4 206 (by decide +kernel) rfl
theorem zw927 : (Jvm.Cond.methodLink "SlowerForTheLate$Row" (1 : Nat) ({ cls := "java/lang/Object", name := "<init>", desc := "()V" } : Jvm.MethodName)) ∈ zTb := zin4 207 (by decide +kernel) rfl
theorem zw928 : (Jvm.Cond.fieldLink "SlowerForTheLate$Row" (7 : Nat) "SlowerForTheLate$Row" "sort" "I") ∈ zTb := zin4 208 (by decide +kernel) rfl
theorem zw929 : (Jvm.Cond.fieldLink "SlowerForTheLate" (56 : Nat) "SlowerForTheLate$Row" "sort" "I") ∈ zTb := zin4 209 (by decide +kernel) rfl
theorem zw930 : (Jvm.Cond.fieldLink "SlowerForTheLate$Row" (13 : Nat) "SlowerForTheLate$Row" "cells" "[I") ∈ zTb := zin4 210 (by decide +kernel) rfl
theorem zw931 : (Jvm.Cond.fieldLink "SlowerForTheLate" (344 : Nat) "SlowerForTheLate$Row" "cells" "[I") ∈ zTb := zin4 211 (by decide +kernel) rfl
theorem zw940 : (Jvm.Cond.code ({ cls := "SlowerForTheLate", name := "put", desc := "(III)I" } : Jvm.MethodName) prog_1_method_47_code (5 : Nat) (Option.some Jvm.ClassFile.FieldType.int)) ∈ zTb := zin4 220 (by decide +kernel) rfl
theorem zw941 : (Jvm.Cond.methodLink "SlowerForTheLate" (321 : Nat) ({ cls := "SlowerForTheLate$Row", name := "has", desc := "(I)Z" } : Jvm.MethodName)) ∈ zTb := zin4 221 (by decide +kernel) rfl
theorem zw942 : (Jvm.Cond.methodLink "SlowerForTheLate" (324 : Nat) ({ cls := "SlowerForTheLate$Row", name := "write", desc := "(II)V" } : Jvm.MethodName)) ∈ zTb := zin4 222 (by decide +kernel) rfl
theorem zw943 : (Jvm.Cond.instanceMethod ({ cls := "SlowerForTheLate$Row", name := "write", desc := "(II)V" } : Jvm.MethodName)) ∈ zTb := zin4 223 (by decide +kernel) rfl
theorem zw944 : (Jvm.Cond.selects "SlowerForTheLate$Row" ({ cls := "SlowerForTheLate$Row", name := "write", desc := "(II)V" } : Jvm.MethodName) ({ cls := "SlowerForTheLate$Row", name := "write", desc := "(II)V" } : Jvm.MethodName)) ∈ zTb := zin4 224 (by decide +kernel) rfl
theorem zw945 : (Jvm.Cond.code ({ cls := "SlowerForTheLate$Row", name := "write", desc := "(II)V" } : Jvm.MethodName) prog_6_method_6_code (3 : Nat) (Option.none : Option Jvm.ClassFile.FieldType)) ∈ zTb := zin4 225 (by decide +kernel) rfl
theorem zw946 : (Jvm.Cond.methodLink "SlowerForTheLate$Row" (21 : Nat) ({ cls := "SlowerForTheLate$Row", name := "narrowed", desc := "(I)I" } : Jvm.MethodName)) ∈ zTb := zin4 226 (by decide +kernel) rfl
theorem zw948 : (Jvm.Cond.instanceMethod ({ cls := "SlowerForTheLate$Row", name := "narrowed", desc := "(I)I" } : Jvm.MethodName)) ∈ zTb := zin4 228 (by decide +kernel) rfl
theorem zw949 : (Jvm.Cond.code ({ cls := "SlowerForTheLate$Row", name := "narrowed", desc := "(I)I" } : Jvm.MethodName) prog_6_method_7_code (2 : Nat) (Option.some Jvm.ClassFile.FieldType.int)) ∈ zTb := zin4 229 (by decide +kernel) rfl
theorem zw953 : (Jvm.Cond.code ({ cls := "SlowerForTheLate", name := "copy", desc := "(IIIII)I" } : Jvm.MethodName) prog_1_method_49_code (8 : Nat) (Option.some Jvm.ClassFile.FieldType.int)) ∈ zTb := zin4 233 (by decide +kernel) rfl
theorem zw954 : (Jvm.Cond.methodLink "SlowerForTheLate" (341 : Nat) ({ cls := "SlowerForTheLate$Row", name := "hasRun", desc := "(II)Z" } : Jvm.MethodName)) ∈ zTb := zin4 234 (by decide +kernel) rfl
theorem zw955 : (Jvm.Cond.instanceMethod ({ cls := "SlowerForTheLate$Row", name := "hasRun", desc := "(II)Z" } : Jvm.MethodName)) ∈ zTb := zin4 235 (by decide +kernel) rfl
theorem zw956 : (Jvm.Cond.selects "SlowerForTheLate$Row" ({ cls := "SlowerForTheLate$Row", name := "hasRun", desc := "(II)Z" } : Jvm.MethodName) ({ cls := "SlowerForTheLate$Row", name := "hasRun", desc := "(II)Z" } : Jvm.MethodName)) ∈ zTb := zin4 236 (by decide +kernel) rfl
theorem zw957 : (Jvm.Cond.code ({ cls := "SlowerForTheLate$Row", name := "hasRun", desc := "(II)Z" } : Jvm.MethodName) prog_6_method_4_code (3 : Nat) (Option.some Jvm.ClassFile.FieldType.boolean)) ∈ zTb := zin4 237 (by decide +kernel) rfl
theorem zw958 : (Jvm.Cond.methodLink "SlowerForTheLate" (347 : Nat) ({ cls := "java/lang/System", name := "arraycopy", desc := "(Ljava/lang/Object;ILjava/lang/Object;II)V" } : Jvm.MethodName)) ∈ zTb := zin4 238 (by decide +kernel) rfl
theorem zw962 : (Jvm.Cond.code ({ cls := "SlowerForTheLate", name := "cost", desc := "(I)I" } : Jvm.MethodName) prog_1_method_50_code (3 : Nat) (Option.some Jvm.ClassFile.FieldType.int)) ∈ zTb := zin5 2 (by decide +kernel) rfl
theorem zw963 : (Jvm.Cond.methodLink "SlowerForTheLate" (353 : Nat) ({ cls := "SlowerForTheLate", name := "refusalOfOne", desc := "(I)I" } : Jvm.MethodName)) ∈ zTb := zin5 3 (by decide +kernel) rfl
theorem zw965 : (Jvm.Cond.instanceMethod ({ cls := "SlowerForTheLate", name := "refusalOfOne", desc := "(I)I" } : Jvm.MethodName)) ∈ zTb := zin5 5 (by decide +kernel) rfl
theorem zw966 : (Jvm.Cond.code ({ cls := "SlowerForTheLate", name := "refusalOfOne", desc := "(I)I" } : Jvm.MethodName) prog_1_method_56_code (2 : Nat) (Option.some Jvm.ClassFile.FieldType.int)) ∈ zTb := zin5 6 (by decide +kernel) rfl
theorem zw967 : (Jvm.Cond.methodLink "SlowerForTheLate" (356 : Nat) ({ cls := "SlowerForTheLate$Walker", name := "price", desc := "()I" } : Jvm.MethodName)) ∈ zTb := zin5 7 (by decide +kernel) rfl
theorem zw968 : (Jvm.Cond.instanceMethod ({ cls := "SlowerForTheLate$Walker", name := "price", desc := "()I" } : Jvm.MethodName)) ∈ zTb := zin5 8 (by decide +kernel) rfl
theorem zw969 : (Jvm.Cond.selects "SlowerForTheLate$Walker" ({ cls := "SlowerForTheLate$Walker", name := "price", desc := "()I" } : Jvm.MethodName) ({ cls := "SlowerForTheLate$Walker", name := "price", desc := "()I" } : Jvm.MethodName)) ∈ zTb := zin5 9 (by decide +kernel) rfl
theorem zw970 : (Jvm.Cond.sameMethod "SlowerForTheLate$Walker" "SlowerForTheLate$Walker" "price" "()I") ∈ zTb := zin5 10 (by decide +kernel) rfl
theorem zw971 : (Jvm.Cond.selects "SlowerForTheLate$Aimer" ({ cls := "SlowerForTheLate$Walker", name := "price", desc := "()I" } : Jvm.MethodName) ({ cls := "SlowerForTheLate$Aimer", name := "price", desc := "()I" } : Jvm.MethodName)) ∈ zTb := zin5 11 (by decide +kernel) rfl
theorem zw972 : (Jvm.Cond.instanceMethod ({ cls := "SlowerForTheLate$Aimer", name := "price", desc := "()I" } : Jvm.MethodName)) ∈ zTb := zin5 12 (by decide +kernel) rfl
theorem zw973 : (Jvm.Cond.code ({ cls := "SlowerForTheLate$Aimer", name := "price", desc := "()I" } : Jvm.MethodName) prog_2_method_4_code (1 : Nat) (Option.some Jvm.ClassFile.FieldType.int)) ∈ zTb := zin5 13 (by decide +kernel) rfl
theorem zw974 : (Jvm.Cond.methodLink "SlowerForTheLate$Aimer" (23 : Nat) ({ cls := "SlowerForTheLate$Tardy", name := "price", desc := "()I" } : Jvm.MethodName)) ∈ zTb := zin5 14 (by decide +kernel) rfl
theorem zw975 : (Jvm.Cond.instanceMethod ({ cls := "SlowerForTheLate$Tardy", name := "price", desc := "()I" } : Jvm.MethodName)) ∈ zTb := zin5 15 (by decide +kernel) rfl
theorem zw976 : (Jvm.Cond.code ({ cls := "SlowerForTheLate$Tardy", name := "price", desc := "()I" } : Jvm.MethodName) prog_10_method_5_code (1 : Nat) (Option.some Jvm.ClassFile.FieldType.int)) ∈ zTb := zin5 16 (by decide +kernel) rfl
theorem zw977 : (Jvm.Cond.methodLink "SlowerForTheLate$Tardy" (30 : Nat) ({ cls := "SlowerForTheLate$Walker", name := "price", desc := "()I" } : Jvm.MethodName)) ∈ zTb := zin5 17 (by decide +kernel) rfl
theorem zw978 : (Jvm.Cond.methodLink "SlowerForTheLate$Tardy" (33 : Nat) ({ cls := "SlowerForTheLate$Tardy", name := "excuse", desc := "()I" } : Jvm.MethodName)) ∈ zTb := zin5 18 (by decide +kernel) rfl
theorem zw979 : (Jvm.Cond.selects "SlowerForTheLate$Lover" ({ cls := "SlowerForTheLate$Walker", name := "price", desc := "()I" } : Jvm.MethodName) ({ cls := "SlowerForTheLate$Lover", name := "price", desc := "()I" } : Jvm.MethodName)) ∈ zTb := zin5 19 (by decide +kernel) rfl
theorem zw980 : (Jvm.Cond.instanceMethod ({ cls := "SlowerForTheLate$Lover", name := "price", desc := "()I" } : Jvm.MethodName)) ∈ zTb := zin5 20 (by decide +kernel) rfl
theorem zw981 : (Jvm.Cond.code ({ cls := "SlowerForTheLate$Lover", name := "price", desc := "()I" } : Jvm.MethodName) prog_3_method_5_code (1 : Nat) (Option.some Jvm.ClassFile.FieldType.int)) ∈ zTb := zin5 21 (by decide +kernel) rfl
theorem zw982 : (Jvm.Cond.methodLink "SlowerForTheLate$Lover" (18 : Nat) ({ cls := "SlowerForTheLate$Tardy", name := "price", desc := "()I" } : Jvm.MethodName)) ∈ zTb := zin5 22 (by decide +kernel) rfl
theorem zw983 : (Jvm.Cond.selects "SlowerForTheLate$Parent" ({ cls := "SlowerForTheLate$Walker", name := "price", desc := "()I" } : Jvm.MethodName) ({ cls := "SlowerForTheLate$Parent", name := "price", desc := "()I" } : Jvm.MethodName)) ∈ zTb := zin5 23 (by decide +kernel) rfl
theorem zw984 : (Jvm.Cond.instanceMethod ({ cls := "SlowerForTheLate$Parent", name := "price", desc := "()I" } : Jvm.MethodName)) ∈ zTb := zin5 24 (by decide +kernel) rfl
theorem zw985 : (Jvm.Cond.code ({ cls := "SlowerForTheLate$Parent", name := "price", desc := "()I" } : Jvm.MethodName) prog_4_method_5_code (1 : Nat) (Option.some Jvm.ClassFile.FieldType.int)) ∈ zTb := zin5 25 (by decide +kernel) rfl
theorem zw986 : (Jvm.Cond.methodLink "SlowerForTheLate$Parent" (15 : Nat) ({ cls := "SlowerForTheLate$Walker", name := "price", desc := "()I" } : Jvm.MethodName)) ∈ zTb := zin5 26 (by decide +kernel) rfl
theorem zw987 : (Jvm.Cond.selects "SlowerForTheLate$Runner" ({ cls := "SlowerForTheLate$Walker", name := "price", desc := "()I" } : Jvm.MethodName) ({ cls := "SlowerForTheLate$Runner", name := "price", desc := "()I" } : Jvm.MethodName)) ∈ zTb := zin5 27 (by decide +kernel) rfl
theorem zw988 : (Jvm.Cond.instanceMethod ({ cls := "SlowerForTheLate$Runner", name := "price", desc := "()I" } : Jvm.MethodName)) ∈ zTb := zin5 28 (by decide +kernel) rfl
theorem zw989 : (Jvm.Cond.code ({ cls := "SlowerForTheLate$Runner", name := "price", desc := "()I" } : Jvm.MethodName) prog_7_method_5_code (1 : Nat) (Option.some Jvm.ClassFile.FieldType.int)) ∈ zTb := zin5 29 (by decide +kernel) rfl
theorem zw990 : (Jvm.Cond.methodLink "SlowerForTheLate$Runner" (30 : Nat) ({ cls := "SlowerForTheLate$Walker", name := "price", desc := "()I" } : Jvm.MethodName)) ∈ zTb := zin5 30 (by decide +kernel) rfl
theorem zw991 : (Jvm.Cond.selects "SlowerForTheLate$Sleeper" ({ cls := "SlowerForTheLate$Walker", name := "price", desc := "()I" } : Jvm.MethodName) ({ cls := "SlowerForTheLate$Sleeper", name := "price", desc := "()I" } : Jvm.MethodName)) ∈ zTb := zin5 31 (by decide +kernel) rfl
theorem zw992 : (Jvm.Cond.instanceMethod ({ cls := "SlowerForTheLate$Sleeper", name := "price", desc := "()I" } : Jvm.MethodName)) ∈ zTb := zin5 32 (by decide +kernel) rfl
theorem zw993 : (Jvm.Cond.code ({ cls := "SlowerForTheLate$Sleeper", name := "price", desc := "()I" } : Jvm.MethodName) prog_8_method_4_code (1 : Nat) (Option.some Jvm.ClassFile.FieldType.int)) ∈ zTb := zin5 33 (by decide +kernel) rfl
theorem zw994 : (Jvm.Cond.methodLink "SlowerForTheLate$Sleeper" (29 : Nat) ({ cls := "SlowerForTheLate$Walker", name := "price", desc := "()I" } : Jvm.MethodName)) ∈ zTb := zin5 34 (by decide +kernel) rfl
theorem zw995 : (Jvm.Cond.selects "SlowerForTheLate$Staff" ({ cls := "SlowerForTheLate$Walker", name := "price", desc := "()I" } : Jvm.MethodName) ({ cls := "SlowerForTheLate$Staff", name := "price", desc := "()I" } : Jvm.MethodName)) ∈ zTb := zin5 35 (by decide +kernel) rfl
theorem zw996 : (Jvm.Cond.instanceMethod ({ cls := "SlowerForTheLate$Staff", name := "price", desc := "()I" } : Jvm.MethodName)) ∈ zTb := zin5 36 (by decide +kernel) rfl
theorem zw997 : (Jvm.Cond.code ({ cls := "SlowerForTheLate$Staff", name := "price", desc := "()I" } : Jvm.MethodName) prog_9_method_6_code (1 : Nat) (Option.some Jvm.ClassFile.FieldType.int)) ∈ zTb := zin5 37 (by decide +kernel) rfl
theorem zw998 : (Jvm.Cond.methodLink "SlowerForTheLate$Staff" (24 : Nat) ({ cls := "SlowerForTheLate$Runner", name := "price", desc := "()I" } : Jvm.MethodName)) ∈ zTb := zin5 38 (by decide +kernel) rfl
theorem zw999 : (Jvm.Cond.selects "SlowerForTheLate$Tardy" ({ cls := "SlowerForTheLate$Walker", name := "price", desc := "()I" } : Jvm.MethodName) ({ cls := "SlowerForTheLate$Tardy", name := "price", desc := "()I" } : Jvm.MethodName)) ∈ zTb := zin5 39 (by decide +kernel) rfl
theorem zw1000 : (Jvm.Cond.code ({ cls := "SlowerForTheLate$Walker", name := "price", desc := "()I" } : Jvm.MethodName) prog_12_method_12_code (1 : Nat) (Option.some Jvm.ClassFile.FieldType.int)) ∈ zTb := zin5 40 (by decide +kernel) rfl
theorem zw1004 : (Jvm.Cond.code ({ cls := "SlowerForTheLate", name := "toss", desc := "(I)I" } : Jvm.MethodName) prog_1_method_51_code (3 : Nat) (Option.some Jvm.ClassFile.FieldType.int)) ∈ zTb := zin5 44 (by decide +kernel) rfl
theorem zw1017 : (Jvm.Cond.code ({ cls := "SlowerForTheLate$Aimer", name := "fail", desc := "()V" } : Jvm.MethodName) prog_2_method_5_code (1 : Nat) (Option.none : Option Jvm.ClassFile.FieldType)) ∈ zTb := zin5 57 (by decide +kernel) rfl
theorem zw1088 : (Jvm.Cond.code ({ cls := "SlowerForTheLate$Tardy", name := "fail", desc := "()V" } : Jvm.MethodName) prog_10_method_6_code (1 : Nat) (Option.none : Option Jvm.ClassFile.FieldType)) ∈ zTb := zin5 128 (by decide +kernel) rfl
theorem zw1110 : (Jvm.Cond.code ({ cls := "SlowerForTheLate$Staff", name := "fail", desc := "()V" } : Jvm.MethodName) prog_9_method_7_code (1 : Nat) (Option.none : Option Jvm.ClassFile.FieldType)) ∈ zTb := zin5 150 (by decide +kernel) rfl
theorem zw1112 : (Jvm.Cond.code ({ cls := "SlowerForTheLate$Walker", name := "fail", desc := "()V" } : Jvm.MethodName) prog_12_method_13_code (1 : Nat) (Option.none : Option Jvm.ClassFile.FieldType)) ∈ zTb := zin5 152 (by decide +kernel) rfl
theorem zw1137 : (Jvm.Cond.code ({ cls := "SlowerForTheLate", name := "element", desc := "(II)J" } : Jvm.MethodName) prog_1_method_48_code (3 : Nat) (Option.some Jvm.ClassFile.FieldType.long)) ∈ zTb := zin5 177 (by decide +kernel) rfl
theorem zw1147 : (Jvm.Cond.code ({ cls := "SlowerForTheLateModel", name := "<init>", desc := "()V" } : Jvm.MethodName) prog_14_method_1_code (2 : Nat) (Option.none : Option Jvm.ClassFile.FieldType)) ∈ zTb := zin5 187 (by decide +kernel) rfl
theorem zw1148 : (Jvm.Cond.methodLink "SlowerForTheLateModel" (1 : Nat) ({ cls := "java/lang/Object", name := "<init>", desc := "()V" } : Jvm.MethodName)) ∈ zTb := zin5 188 (by decide +kernel) rfl
theorem zw1149 : (Jvm.Cond.fieldLink "SlowerForTheLateModel" (9 : Nat) "SlowerForTheLateModel" "s" "[I") ∈ zTb := zin5 189 (by decide +kernel) rfl
theorem zw1150 : (Jvm.Cond.fieldLink "SlowerForTheLateModel" (13 : Nat) "SlowerForTheLateModel" "image" "[I") ∈ zTb := zin5 190 (by decide +kernel) rfl
theorem zw1151 : (Jvm.Cond.fieldLink "SlowerForTheLateModel" (16 : Nat) "SlowerForTheLateModel" "was" "[I") ∈ zTb := zin5 191 (by decide +kernel) rfl
theorem zw1152 : (Jvm.Cond.fieldLink "SlowerForTheLateModel" (301 : Nat) "SlowerForTheLateModel" "hasImage" "Z") ∈ zTb := zin5 192 (by decide +kernel) rfl
theorem zw1153 : (Jvm.Cond.fieldLink "SlowerForTheLateModel" (19 : Nat) "SlowerForTheLateModel" "stopOf" "[I") ∈ zTb := zin5 193 (by decide +kernel) rfl
theorem zw1154 : (Jvm.Cond.fieldLink "SlowerForTheLateModel" (22 : Nat) "SlowerForTheLateModel" "minuteOf" "[I") ∈ zTb := zin5 194 (by decide +kernel) rfl
theorem zw1155 : (Jvm.Cond.fieldLink "SlowerForTheLateModel" (25 : Nat) "SlowerForTheLateModel" "taken" "[I") ∈ zTb := zin5 195 (by decide +kernel) rfl
theorem zw1156 : (Jvm.Cond.fieldLink "SlowerForTheLateModel" (28 : Nat) "SlowerForTheLateModel" "fullest" "[I") ∈ zTb := zin5 196 (by decide +kernel) rfl
theorem zw1157 : (Jvm.Cond.fieldLink "SlowerForTheLateModel" (31 : Nat) "SlowerForTheLateModel" "whenAt" "[I") ∈ zTb := zin5 197 (by decide +kernel) rfl
theorem zw1158 : (Jvm.Cond.fieldLink "SlowerForTheLateModel" (34 : Nat) "SlowerForTheLateModel" "aboardAt" "[I") ∈ zTb := zin5 198 (by decide +kernel) rfl
theorem zw1159 : (Jvm.Cond.fieldLink "SlowerForTheLateModel" (37 : Nat) "SlowerForTheLateModel" "on" "[I") ∈ zTb := zin5 199 (by decide +kernel) rfl
theorem zw1160 : (Jvm.Cond.fieldLink "SlowerForTheLateModel" (40 : Nat) "SlowerForTheLateModel" "onAt" "[I") ∈ zTb := zin5 200 (by decide +kernel) rfl
theorem zw1161 : (Jvm.Cond.fieldLink "SlowerForTheLateModel" (43 : Nat) "SlowerForTheLateModel" "offAt" "[I") ∈ zTb := zin5 201 (by decide +kernel) rfl
theorem zw1162 : (Jvm.Cond.fieldLink "SlowerForTheLateModel" (46 : Nat) "SlowerForTheLateModel" "missedSet" "[I") ∈ zTb := zin5 202 (by decide +kernel) rfl
theorem zw1163 : (Jvm.Cond.fieldLink "SlowerForTheLateModel" (49 : Nat) "SlowerForTheLateModel" "missed" "[I") ∈ zTb := zin5 203 (by decide +kernel) rfl
theorem zw1164 : (Jvm.Cond.fieldLink "SlowerForTheLateModel" (52 : Nat) "SlowerForTheLateModel" "pushed" "[I") ∈ zTb := zin5 204 (by decide +kernel) rfl
theorem zw1165 : (Jvm.Cond.fieldLink "SlowerForTheLateModel" (55 : Nat) "SlowerForTheLateModel" "asked" "[I") ∈ zTb := zin5 205 (by decide +kernel) rfl
theorem zw1166 : (Jvm.Cond.fieldLink "SlowerForTheLateModel" (58 : Nat) "SlowerForTheLateModel" "away" "I") ∈ zTb := zin5 206 (by decide +kernel) rfl
theorem zw1167 : (Jvm.Cond.fieldLink "SlowerForTheLateModel" (62 : Nat) "SlowerForTheLateModel" "depths" "I") ∈ zTb := zin5 207 (by decide +kernel) rfl
theorem zw1168 : (Jvm.Cond.fieldLink "SlowerForTheLateModel" (125 : Nat) "SlowerForTheLateModel" "moved" "I") ∈ zTb := zin5 208 (by decide +kernel) rfl
theorem zw1169 : (Jvm.Cond.fieldLink "SlowerForTheLateModel" (174 : Nat) "SlowerForTheLateModel" "at" "I") ∈ zTb := zin5 209 (by decide +kernel) rfl
theorem zw1170 : (Jvm.Cond.fieldLink "SlowerForTheLateModel" (180 : Nat) "SlowerForTheLateModel" "rowAt" "I") ∈ zTb := zin5 210 (by decide +kernel) rfl
theorem zw1171 : (Jvm.Cond.fieldLink "SlowerForTheLateModel" (177 : Nat) "SlowerForTheLateModel" "rowEnd" "I") ∈ zTb := zin5 211 (by decide +kernel) rfl
theorem zw1172 : (Jvm.Cond.fieldLink "SlowerForTheLateModel" (65 : Nat) "SlowerForTheLateModel" "numbers" "[I") ∈ zTb := zin5 212 (by decide +kernel) rfl
theorem zw1173 : (Jvm.Cond.fieldLink "SlowerForTheLateModel" (240 : Nat) "SlowerForTheLateModel" "ofTen" "I") ∈ zTb := zin5 213 (by decide +kernel) rfl
theorem zw1174 : (Jvm.Cond.fieldLink "SlowerForTheLateModel" (243 : Nat) "SlowerForTheLateModel" "minutesOfTen" "I") ∈ zTb := zin5 214 (by decide +kernel) rfl
theorem zw1175 : (Jvm.Cond.fieldLink "SlowerForTheLateModel" (68 : Nat) "SlowerForTheLateModel" "firstAt" "[I") ∈ zTb := zin5 215 (by decide +kernel) rfl
theorem zw1176 : (Jvm.Cond.fieldLink "SlowerForTheLateModel" (71 : Nat) "SlowerForTheLateModel" "otherAt" "[I") ∈ zTb := zin5 216 (by decide +kernel) rfl
theorem zw1177 : (Jvm.Cond.fieldLink "SlowerForTheLateModel" (292 : Nat) "SlowerForTheLateModel" "seed" "I") ∈ zTb := zin5 217 (by decide +kernel) rfl
theorem zw1178 : (Jvm.Cond.fieldLink "SlowerForTheLateModel" (74 : Nat) "SlowerForTheLateModel" "ownBase" "[I") ∈ zTb := zin5 218 (by decide +kernel) rfl
theorem zw1179 : (Jvm.Cond.fieldLink "SlowerForTheLateModel" (77 : Nat) "SlowerForTheLateModel" "kept" "[I") ∈ zTb := zin5 219 (by decide +kernel) rfl
theorem zw1180 : (Jvm.Cond.fieldLink "SlowerForTheLateModel" (80 : Nat) "SlowerForTheLateModel" "keptKind" "[I") ∈ zTb := zin5 220 (by decide +kernel) rfl
theorem zw1181 : (Jvm.Cond.fieldLink "SlowerForTheLateModel" (83 : Nat) "SlowerForTheLateModel" "keptFigure" "[I") ∈ zTb := zin5 221 (by decide +kernel) rfl
theorem zw1182 : (Jvm.Cond.fieldLink "SlowerForTheLateModel" (86 : Nat) "SlowerForTheLateModel" "sort" "[I") ∈ zTb := zin5 222 (by decide +kernel) rfl
theorem zw1183 : (Jvm.Cond.fieldLink "SlowerForTheLateModel" (89 : Nat) "SlowerForTheLateModel" "size" "[I") ∈ zTb := zin5 223 (by decide +kernel) rfl
theorem zw1184 : (Jvm.Cond.fieldLink "SlowerForTheLateModel" (92 : Nat) "SlowerForTheLateModel" "element" "[I") ∈ zTb := zin5 224 (by decide +kernel) rfl
theorem zw1185 : (Jvm.Cond.fieldLink "SlowerForTheLateModel" (305 : Nat) "SlowerForTheLateModel" "thrown" "I") ∈ zTb := zin5 225 (by decide +kernel) rfl
theorem zw1264 : (Jvm.Cond.code ({ cls := "SlowerForTheLateModel", name := "day", desc := "(I)I" } : Jvm.MethodName) prog_14_method_38_code (8 : Nat) (Option.some Jvm.ClassFile.FieldType.int)) ∈ zTb := zin6 64 (by decide +kernel) rfl
theorem zw1265 : (Jvm.Cond.methodLink "SlowerForTheLateModel" (199 : Nat) ({ cls := "SlowerForTheLateModel", name := "wrongRow", desc := "(II)I" } : Jvm.MethodName)) ∈ zTb := zin6 65 (by decide +kernel) rfl
theorem zw1267 : (Jvm.Cond.instanceMethod ({ cls := "SlowerForTheLateModel", name := "wrongRow", desc := "(II)I" } : Jvm.MethodName)) ∈ zTb := zin6 67 (by decide +kernel) rfl
theorem zw1268 : (Jvm.Cond.code ({ cls := "SlowerForTheLateModel", name := "wrongRow", desc := "(II)I" } : Jvm.MethodName) prog_14_method_99_code (3 : Nat) (Option.some Jvm.ClassFile.FieldType.int)) ∈ zTb := zin6 68 (by decide +kernel) rfl
theorem zw1269 : (Jvm.Cond.methodLink "SlowerForTheLateModel" (222 : Nat) ({ cls := "SlowerForTheLateModel", name := "isShelf", desc := "(I)Z" } : Jvm.MethodName)) ∈ zTb := zin6 69 (by decide +kernel) rfl
theorem zw1270 : (Jvm.Cond.static ({ cls := "SlowerForTheLateModel", name := "isShelf", desc := "(I)Z" } : Jvm.MethodName)) ∈ zTb := zin6 70 (by decide +kernel) rfl
theorem zw1271 : (Jvm.Cond.code ({ cls := "SlowerForTheLateModel", name := "isShelf", desc := "(I)Z" } : Jvm.MethodName) prog_14_method_98_code (1 : Nat) (Option.some Jvm.ClassFile.FieldType.boolean)) ∈ zTb := zin6 71 (by decide +kernel) rfl
theorem zw1272 : (Jvm.Cond.methodLink "SlowerForTheLateModel" (95 : Nat) ({ cls := "SlowerForTheLateModel", name := "isIn", desc := "(III)Z" } : Jvm.MethodName)) ∈ zTb := zin6 72 (by decide +kernel) rfl
theorem zw1273 : (Jvm.Cond.static ({ cls := "SlowerForTheLateModel", name := "isIn", desc := "(III)Z" } : Jvm.MethodName)) ∈ zTb := zin6 73 (by decide +kernel) rfl
theorem zw1274 : (Jvm.Cond.code ({ cls := "SlowerForTheLateModel", name := "isIn", desc := "(III)Z" } : Jvm.MethodName) prog_14_method_2_code (3 : Nat) (Option.some Jvm.ClassFile.FieldType.boolean)) ∈ zTb := zin6 74 (by decide +kernel) rfl
theorem zw1275 : (Jvm.Cond.methodLink "SlowerForTheLateModel" (202 : Nat) ({ cls := "SlowerForTheLateModel", name := "readsStatement", desc := "()Z" } : Jvm.MethodName)) ∈ zTb := zin6 75 (by decide +kernel) rfl
theorem zw1277 : (Jvm.Cond.instanceMethod ({ cls := "SlowerForTheLateModel", name := "readsStatement", desc := "()Z" } : Jvm.MethodName)) ∈ zTb := zin6 77 (by decide +kernel) rfl
theorem zw1278 : (Jvm.Cond.code ({ cls := "SlowerForTheLateModel", name := "readsStatement", desc := "()Z" } : Jvm.MethodName) prog_14_method_34_code (3 : Nat) (Option.some Jvm.ClassFile.FieldType.boolean)) ∈ zTb := zin6 78 (by decide +kernel) rfl
theorem zw1279 : (Jvm.Cond.methodLink "SlowerForTheLateModel" (183 : Nat) ({ cls := "SlowerForTheLateModel", name := "here", desc := "()I" } : Jvm.MethodName)) ∈ zTb := zin6 79 (by decide +kernel) rfl
theorem zw1281 : (Jvm.Cond.instanceMethod ({ cls := "SlowerForTheLateModel", name := "here", desc := "()I" } : Jvm.MethodName)) ∈ zTb := zin6 81 (by decide +kernel) rfl
theorem zw1282 : (Jvm.Cond.code ({ cls := "SlowerForTheLateModel", name := "here", desc := "()I" } : Jvm.MethodName) prog_14_method_32_code (1 : Nat) (Option.some Jvm.ClassFile.FieldType.int)) ∈ zTb := zin6 82 (by decide +kernel) rfl
theorem zw1283 : (Jvm.Cond.methodLink "SlowerForTheLateModel" (186 : Nat) ({ cls := "SlowerForTheLateModel", name := "readsNumber", desc := "(II)Z" } : Jvm.MethodName)) ∈ zTb := zin6 83 (by decide +kernel) rfl
theorem zw1285 : (Jvm.Cond.instanceMethod ({ cls := "SlowerForTheLateModel", name := "readsNumber", desc := "(II)Z" } : Jvm.MethodName)) ∈ zTb := zin6 85 (by decide +kernel) rfl
theorem zw1286 : (Jvm.Cond.code ({ cls := "SlowerForTheLateModel", name := "readsNumber", desc := "(II)Z" } : Jvm.MethodName) prog_14_method_33_code (4 : Nat) (Option.some Jvm.ClassFile.FieldType.boolean)) ∈ zTb := zin6 86 (by decide +kernel) rfl
theorem zw1287 : (Jvm.Cond.methodLink "SlowerForTheLateModel" (206 : Nat) ({ cls := "SlowerForTheLateModel", name := "lays", desc := "([I[I)V" } : Jvm.MethodName)) ∈ zTb := zin6 87 (by decide +kernel) rfl
theorem zw1288 : (Jvm.Cond.static ({ cls := "SlowerForTheLateModel", name := "lays", desc := "([I[I)V" } : Jvm.MethodName)) ∈ zTb := zin6 88 (by decide +kernel) rfl
theorem zw1289 : (Jvm.Cond.code ({ cls := "SlowerForTheLateModel", name := "lays", desc := "([I[I)V" } : Jvm.MethodName) prog_14_method_5_code (3 : Nat) (Option.none : Option Jvm.ClassFile.FieldType)) ∈ zTb := zin6 89 (by decide +kernel) rfl
theorem zw1290 : (Jvm.Cond.methodLink "SlowerForTheLateModel" (210 : Nat) ({ cls := "SlowerForTheLateModel", name := "isDone", desc := "(I)Z" } : Jvm.MethodName)) ∈ zTb := zin6 90 (by decide +kernel) rfl
theorem zw1292 : (Jvm.Cond.instanceMethod ({ cls := "SlowerForTheLateModel", name := "isDone", desc := "(I)Z" } : Jvm.MethodName)) ∈ zTb := zin6 92 (by decide +kernel) rfl
theorem zw1293 : (Jvm.Cond.code ({ cls := "SlowerForTheLateModel", name := "isDone", desc := "(I)Z" } : Jvm.MethodName) prog_14_method_37_code (5 : Nat) (Option.some Jvm.ClassFile.FieldType.boolean)) ∈ zTb := zin6 93 (by decide +kernel) rfl
theorem zw1294 : (Jvm.Cond.methodLink "SlowerForTheLateModel" (189 : Nat) ({ cls := "SlowerForTheLateModel", name := "addsTrain", desc := "(II)V" } : Jvm.MethodName)) ∈ zTb := zin6 94 (by decide +kernel) rfl
theorem zw1296 : (Jvm.Cond.instanceMethod ({ cls := "SlowerForTheLateModel", name := "addsTrain", desc := "(II)V" } : Jvm.MethodName)) ∈ zTb := zin6 96 (by decide +kernel) rfl
theorem zw1297 : (Jvm.Cond.code ({ cls := "SlowerForTheLateModel", name := "addsTrain", desc := "(II)V" } : Jvm.MethodName) prog_14_method_36_code (3 : Nat) (Option.none : Option Jvm.ClassFile.FieldType)) ∈ zTb := zin6 97 (by decide +kernel) rfl
theorem zw1298 : (Jvm.Cond.methodLink "SlowerForTheLateModel" (192 : Nat) ({ cls := "SlowerForTheLateModel", name := "areStops", desc := "(II)Z" } : Jvm.MethodName)) ∈ zTb := zin6 98 (by decide +kernel) rfl
theorem zw1300 : (Jvm.Cond.instanceMethod ({ cls := "SlowerForTheLateModel", name := "areStops", desc := "(II)Z" } : Jvm.MethodName)) ∈ zTb := zin6 100 (by decide +kernel) rfl
theorem zw1301 : (Jvm.Cond.code ({ cls := "SlowerForTheLateModel", name := "areStops", desc := "(II)Z" } : Jvm.MethodName) prog_14_method_35_code (3 : Nat) (Option.some Jvm.ClassFile.FieldType.boolean)) ∈ zTb := zin6 101 (by decide +kernel) rfl
theorem zw1302 : (Jvm.Cond.methodLink "SlowerForTheLateModel" (195 : Nat) ({ cls := "SlowerForTheLateModel", name := "isTrain", desc := "(I)Z" } : Jvm.MethodName)) ∈ zTb := zin6 102 (by decide +kernel) rfl
theorem zw1304 : (Jvm.Cond.instanceMethod ({ cls := "SlowerForTheLateModel", name := "isTrain", desc := "(I)Z" } : Jvm.MethodName)) ∈ zTb := zin6 104 (by decide +kernel) rfl
theorem zw1305 : (Jvm.Cond.code ({ cls := "SlowerForTheLateModel", name := "isTrain", desc := "(I)Z" } : Jvm.MethodName) prog_14_method_8_code (2 : Nat) (Option.some Jvm.ClassFile.FieldType.boolean)) ∈ zTb := zin6 105 (by decide +kernel) rfl
theorem zw1309 : (Jvm.Cond.code ({ cls := "SlowerForTheLateModel", name := "traveller", desc := "(II)I" } : Jvm.MethodName) prog_14_method_39_code (3 : Nat) (Option.some Jvm.ClassFile.FieldType.int)) ∈ zTb := zin6 109 (by decide +kernel) rfl
theorem zw1310 : (Jvm.Cond.methodLink "SlowerForTheLateModel" (213 : Nat) ({ cls := "SlowerForTheLateModel", name := "isTraveller", desc := "(I)Z" } : Jvm.MethodName)) ∈ zTb := zin6 110 (by decide +kernel) rfl
theorem zw1312 : (Jvm.Cond.instanceMethod ({ cls := "SlowerForTheLateModel", name := "isTraveller", desc := "(I)Z" } : Jvm.MethodName)) ∈ zTb := zin6 112 (by decide +kernel) rfl
theorem zw1313 : (Jvm.Cond.code ({ cls := "SlowerForTheLateModel", name := "isTraveller", desc := "(I)Z" } : Jvm.MethodName) prog_14_method_7_code (2 : Nat) (Option.some Jvm.ClassFile.FieldType.boolean)) ∈ zTb := zin6 113 (by decide +kernel) rfl
theorem zw1314 : (Jvm.Cond.methodLink "SlowerForTheLateModel" (131 : Nat) ({ cls := "SlowerForTheLateModel", name := "comesAt", desc := "(I)I" } : Jvm.MethodName)) ∈ zTb := zin6 114 (by decide +kernel) rfl
theorem zw1316 : (Jvm.Cond.instanceMethod ({ cls := "SlowerForTheLateModel", name := "comesAt", desc := "(I)I" } : Jvm.MethodName)) ∈ zTb := zin6 116 (by decide +kernel) rfl
theorem zw1317 : (Jvm.Cond.code ({ cls := "SlowerForTheLateModel", name := "comesAt", desc := "(I)I" } : Jvm.MethodName) prog_14_method_14_code (4 : Nat) (Option.some Jvm.ClassFile.FieldType.int)) ∈ zTb := zin6 117 (by decide +kernel) rfl
theorem zw1318 : (Jvm.Cond.methodLink "SlowerForTheLateModel" (99 : Nat) ({ cls := "SlowerForTheLateModel", name := "baseOf", desc := "(I)I" } : Jvm.MethodName)) ∈ zTb := zin6 118 (by decide +kernel) rfl
theorem zw1320 : (Jvm.Cond.instanceMethod ({ cls := "SlowerForTheLateModel", name := "baseOf", desc := "(I)I" } : Jvm.MethodName)) ∈ zTb := zin6 120 (by decide +kernel) rfl
theorem zw1321 : (Jvm.Cond.code ({ cls := "SlowerForTheLateModel", name := "baseOf", desc := "(I)I" } : Jvm.MethodName) prog_14_method_13_code (2 : Nat) (Option.some Jvm.ClassFile.FieldType.int)) ∈ zTb := zin6 121 (by decide +kernel) rfl
theorem zw1322 : (Jvm.Cond.methodLink "SlowerForTheLateModel" (103 : Nat) ({ cls := "SlowerForTheLateModel", name := "figure", desc := "(I)I" } : Jvm.MethodName)) ∈ zTb := zin6 122 (by decide +kernel) rfl
theorem zw1324 : (Jvm.Cond.instanceMethod ({ cls := "SlowerForTheLateModel", name := "figure", desc := "(I)I" } : Jvm.MethodName)) ∈ zTb := zin6 124 (by decide +kernel) rfl
theorem zw1325 : (Jvm.Cond.code ({ cls := "SlowerForTheLateModel", name := "figure", desc := "(I)I" } : Jvm.MethodName) prog_14_method_10_code (2 : Nat) (Option.some Jvm.ClassFile.FieldType.int)) ∈ zTb := zin6 125 (by decide +kernel) rfl
theorem zw1326 : (Jvm.Cond.methodLink "SlowerForTheLateModel" (106 : Nat) ({ cls := "SlowerForTheLateModel", name := "kind", desc := "(I)I" } : Jvm.MethodName)) ∈ zTb := zin6 126 (by decide +kernel) rfl
theorem zw1328 : (Jvm.Cond.instanceMethod ({ cls := "SlowerForTheLateModel", name := "kind", desc := "(I)I" } : Jvm.MethodName)) ∈ zTb := zin6 128 (by decide +kernel) rfl
theorem zw1329 : (Jvm.Cond.code ({ cls := "SlowerForTheLateModel", name := "kind", desc := "(I)I" } : Jvm.MethodName) prog_14_method_9_code (2 : Nat) (Option.some Jvm.ClassFile.FieldType.int)) ∈ zTb := zin6 129 (by decide +kernel) rfl
theorem zw1330 : (Jvm.Cond.methodLink "SlowerForTheLateModel" (109 : Nat) ({ cls := "SlowerForTheLateModel", name := "most", desc := "(II)I" } : Jvm.MethodName)) ∈ zTb := zin6 130 (by decide +kernel) rfl
theorem zw1331 : (Jvm.Cond.static ({ cls := "SlowerForTheLateModel", name := "most", desc := "(II)I" } : Jvm.MethodName)) ∈ zTb := zin6 131 (by decide +kernel) rfl
theorem zw1332 : (Jvm.Cond.code ({ cls := "SlowerForTheLateModel", name := "most", desc := "(II)I" } : Jvm.MethodName) prog_14_method_4_code (2 : Nat) (Option.some Jvm.ClassFile.FieldType.int)) ∈ zTb := zin6 132 (by decide +kernel) rfl
theorem zw1333 : (Jvm.Cond.methodLink "SlowerForTheLateModel" (147 : Nat) ({ cls := "SlowerForTheLateModel", name := "excuseBy", desc := "(II)I" } : Jvm.MethodName)) ∈ zTb := zin6 133 (by decide +kernel) rfl
theorem zw1334 : (Jvm.Cond.static ({ cls := "SlowerForTheLateModel", name := "excuseBy", desc := "(II)I" } : Jvm.MethodName)) ∈ zTb := zin6 134 (by decide +kernel) rfl
theorem zw1335 : (Jvm.Cond.code ({ cls := "SlowerForTheLateModel", name := "excuseBy", desc := "(II)I" } : Jvm.MethodName) prog_14_method_15_code (2 : Nat) (Option.some Jvm.ClassFile.FieldType.int)) ∈ zTb := zin6 135 (by decide +kernel) rfl
theorem zw1336 : (Jvm.Cond.methodLink "SlowerForTheLateModel" (128 : Nat) ({ cls := "SlowerForTheLateModel", name := "rankOf", desc := "(I)I" } : Jvm.MethodName)) ∈ zTb := zin6 136 (by decide +kernel) rfl
theorem zw1338 : (Jvm.Cond.instanceMethod ({ cls := "SlowerForTheLateModel", name := "rankOf", desc := "(I)I" } : Jvm.MethodName)) ∈ zTb := zin6 138 (by decide +kernel) rfl
theorem zw1339 : (Jvm.Cond.code ({ cls := "SlowerForTheLateModel", name := "rankOf", desc := "(I)I" } : Jvm.MethodName) prog_14_method_16_code (2 : Nat) (Option.some Jvm.ClassFile.FieldType.int)) ∈ zTb := zin6 139 (by decide +kernel) rfl
theorem zw1340 : (Jvm.Cond.methodLink "SlowerForTheLateModel" (122 : Nat) ({ cls := "SlowerForTheLateModel", name := "placesOf", desc := "(I)I" } : Jvm.MethodName)) ∈ zTb := zin6 140 (by decide +kernel) rfl
theorem zw1342 : (Jvm.Cond.instanceMethod ({ cls := "SlowerForTheLateModel", name := "placesOf", desc := "(I)I" } : Jvm.MethodName)) ∈ zTb := zin6 142 (by decide +kernel) rfl
theorem zw1343 : (Jvm.Cond.code ({ cls := "SlowerForTheLateModel", name := "placesOf", desc := "(I)I" } : Jvm.MethodName) prog_14_method_17_code (2 : Nat) (Option.some Jvm.ClassFile.FieldType.int)) ∈ zTb := zin6 143 (by decide +kernel) rfl
theorem zw1344 : (Jvm.Cond.methodLink "SlowerForTheLateModel" (119 : Nat) ({ cls := "SlowerForTheLateModel", name := "offOf", desc := "(I)I" } : Jvm.MethodName)) ∈ zTb := zin6 144 (by decide +kernel) rfl
theorem zw1346 : (Jvm.Cond.instanceMethod ({ cls := "SlowerForTheLateModel", name := "offOf", desc := "(I)I" } : Jvm.MethodName)) ∈ zTb := zin6 146 (by decide +kernel) rfl
theorem zw1347 : (Jvm.Cond.code ({ cls := "SlowerForTheLateModel", name := "offOf", desc := "(I)I" } : Jvm.MethodName) prog_14_method_18_code (2 : Nat) (Option.some Jvm.ClassFile.FieldType.int)) ∈ zTb := zin6 147 (by decide +kernel) rfl
theorem zw1348 : (Jvm.Cond.methodLink "SlowerForTheLateModel" (113 : Nat) ({ cls := "SlowerForTheLateModel", name := "to", desc := "(I)I" } : Jvm.MethodName)) ∈ zTb := zin6 148 (by decide +kernel) rfl
theorem zw1350 : (Jvm.Cond.instanceMethod ({ cls := "SlowerForTheLateModel", name := "to", desc := "(I)I" } : Jvm.MethodName)) ∈ zTb := zin6 150 (by decide +kernel) rfl
theorem zw1351 : (Jvm.Cond.code ({ cls := "SlowerForTheLateModel", name := "to", desc := "(I)I" } : Jvm.MethodName) prog_14_method_12_code (2 : Nat) (Option.some Jvm.ClassFile.FieldType.int)) ∈ zTb := zin6 151 (by decide +kernel) rfl
theorem zw1352 : (Jvm.Cond.methodLink "SlowerForTheLateModel" (116 : Nat) ({ cls := "SlowerForTheLateModel", name := "least", desc := "(II)I" } : Jvm.MethodName)) ∈ zTb := zin6 152 (by decide +kernel) rfl
theorem zw1353 : (Jvm.Cond.static ({ cls := "SlowerForTheLateModel", name := "least", desc := "(II)I" } : Jvm.MethodName)) ∈ zTb := zin6 153 (by decide +kernel) rfl
theorem zw1354 : (Jvm.Cond.code ({ cls := "SlowerForTheLateModel", name := "least", desc := "(II)I" } : Jvm.MethodName) prog_14_method_3_code (2 : Nat) (Option.some Jvm.ClassFile.FieldType.int)) ∈ zTb := zin6 154 (by decide +kernel) rfl
theorem zw1358 : (Jvm.Cond.code ({ cls := "SlowerForTheLateModel", name := "takes", desc := "(II)I" } : Jvm.MethodName) prog_14_method_41_code (3 : Nat) (Option.some Jvm.ClassFile.FieldType.int)) ∈ zTb := zin6 158 (by decide +kernel) rfl
theorem zw1359 : (Jvm.Cond.methodLink "SlowerForTheLateModel" (216 : Nat) ({ cls := "SlowerForTheLateModel", name := "isDepth", desc := "(I)Z" } : Jvm.MethodName)) ∈ zTb := zin6 159 (by decide +kernel) rfl
theorem zw1360 : (Jvm.Cond.static ({ cls := "SlowerForTheLateModel", name := "isDepth", desc := "(I)Z" } : Jvm.MethodName)) ∈ zTb := zin6 160 (by decide +kernel) rfl
theorem zw1361 : (Jvm.Cond.code ({ cls := "SlowerForTheLateModel", name := "isDepth", desc := "(I)Z" } : Jvm.MethodName) prog_14_method_40_code (1 : Nat) (Option.some Jvm.ClassFile.FieldType.boolean)) ∈ zTb := zin6 161 (by decide +kernel) rfl
theorem zw1362 : (Jvm.Cond.methodLink "SlowerForTheLateModel" (144 : Nat) ({ cls := "SlowerForTheLateModel", name := "wouldTake", desc := "(II)Z" } : Jvm.MethodName)) ∈ zTb := zin6 162 (by decide +kernel) rfl
theorem zw1364 : (Jvm.Cond.instanceMethod ({ cls := "SlowerForTheLateModel", name := "wouldTake", desc := "(II)Z" } : Jvm.MethodName)) ∈ zTb := zin6 164 (by decide +kernel) rfl
theorem zw1365 : (Jvm.Cond.code ({ cls := "SlowerForTheLateModel", name := "wouldTake", desc := "(II)Z" } : Jvm.MethodName) prog_14_method_19_code (3 : Nat) (Option.some Jvm.ClassFile.FieldType.boolean)) ∈ zTb := zin6 165 (by decide +kernel) rfl
theorem zw1369 : (Jvm.Cond.code ({ cls := "SlowerForTheLateModel", name := "refund", desc := "(II)I" } : Jvm.MethodName) prog_14_method_42_code (3 : Nat) (Option.some Jvm.ClassFile.FieldType.int)) ∈ zTb := zin6 169 (by decide +kernel) rfl
theorem zw1370 : (Jvm.Cond.methodLink "SlowerForTheLateModel" (219 : Nat) ({ cls := "SlowerForTheLateModel", name := "refundOf", desc := "(II)I" } : Jvm.MethodName)) ∈ zTb := zin6 170 (by decide +kernel) rfl
theorem zw1372 : (Jvm.Cond.instanceMethod ({ cls := "SlowerForTheLateModel", name := "refundOf", desc := "(II)I" } : Jvm.MethodName)) ∈ zTb := zin6 172 (by decide +kernel) rfl
theorem zw1373 : (Jvm.Cond.code ({ cls := "SlowerForTheLateModel", name := "refundOf", desc := "(II)I" } : Jvm.MethodName) prog_14_method_20_code (3 : Nat) (Option.some Jvm.ClassFile.FieldType.int)) ∈ zTb := zin6 173 (by decide +kernel) rfl
theorem zw1377 : (Jvm.Cond.code ({ cls := "SlowerForTheLateModel", name := "comes", desc := "(IIII)I" } : Jvm.MethodName) prog_14_method_43_code (7 : Nat) (Option.some Jvm.ClassFile.FieldType.int)) ∈ zTb := zin6 177 (by decide +kernel) rfl
theorem zw1378 : (Jvm.Cond.methodLink "SlowerForTheLateModel" (225 : Nat) ({ cls := "SlowerForTheLateModel", name := "wrongKept", desc := "(I)I" } : Jvm.MethodName)) ∈ zTb := zin6 178 (by decide +kernel) rfl
theorem zw1380 : (Jvm.Cond.instanceMethod ({ cls := "SlowerForTheLateModel", name := "wrongKept", desc := "(I)I" } : Jvm.MethodName)) ∈ zTb := zin6 180 (by decide +kernel) rfl
theorem zw1381 : (Jvm.Cond.code ({ cls := "SlowerForTheLateModel", name := "wrongKept", desc := "(I)I" } : Jvm.MethodName) prog_14_method_100_code (2 : Nat) (Option.some Jvm.ClassFile.FieldType.int)) ∈ zTb := zin6 181 (by decide +kernel) rfl
theorem zw1385 : (Jvm.Cond.code ({ cls := "SlowerForTheLateModel", name := "leaves", desc := "(I)I" } : Jvm.MethodName) prog_14_method_44_code (3 : Nat) (Option.some Jvm.ClassFile.FieldType.int)) ∈ zTb := zin6 185 (by decide +kernel) rfl
theorem zw1389 : (Jvm.Cond.code ({ cls := "SlowerForTheLateModel", name := "base", desc := "(II)I" } : Jvm.MethodName) prog_14_method_45_code (4 : Nat) (Option.some Jvm.ClassFile.FieldType.int)) ∈ zTb := zin6 189 (by decide +kernel) rfl
theorem zw1393 : (Jvm.Cond.code ({ cls := "SlowerForTheLateModel", name := "train", desc := "(II)I" } : Jvm.MethodName) prog_14_method_46_code (3 : Nat) (Option.some Jvm.ClassFile.FieldType.int)) ∈ zTb := zin6 193 (by decide +kernel) rfl
theorem zw1397 : (Jvm.Cond.code ({ cls := "SlowerForTheLateModel", name := "about", desc := "(II)I" } : Jvm.MethodName) prog_14_method_47_code (3 : Nat) (Option.some Jvm.ClassFile.FieldType.int)) ∈ zTb := zin6 197 (by decide +kernel) rfl
theorem zw1398 : (Jvm.Cond.methodLink "SlowerForTheLateModel" (141 : Nat) ({ cls := "SlowerForTheLateModel", name := "has", desc := "(II)Z" } : Jvm.MethodName)) ∈ zTb := zin6 198 (by decide +kernel) rfl
theorem zw1399 : (Jvm.Cond.static ({ cls := "SlowerForTheLateModel", name := "has", desc := "(II)Z" } : Jvm.MethodName)) ∈ zTb := zin6 199 (by decide +kernel) rfl
theorem zw1400 : (Jvm.Cond.code ({ cls := "SlowerForTheLateModel", name := "has", desc := "(II)Z" } : Jvm.MethodName) prog_14_method_6_code (2 : Nat) (Option.some Jvm.ClassFile.FieldType.boolean)) ∈ zTb := zin6 200 (by decide +kernel) rfl
theorem zw1404 : (Jvm.Cond.code ({ cls := "SlowerForTheLateModel", name := "cancels", desc := "(I)I" } : Jvm.MethodName) prog_14_method_48_code (2 : Nat) (Option.some Jvm.ClassFile.FieldType.int)) ∈ zTb := zin6 204 (by decide +kernel) rfl
theorem zw1408 : (Jvm.Cond.code ({ cls := "SlowerForTheLateModel", name := "run", desc := "(II)I" } : Jvm.MethodName) prog_14_method_49_code (4 : Nat) (Option.some Jvm.ClassFile.FieldType.int)) ∈ zTb := zin6 208 (by decide +kernel) rfl
theorem zw1412 : (Jvm.Cond.code ({ cls := "SlowerForTheLateModel", name := "set", desc := "(II)I" } : Jvm.MethodName) prog_14_method_50_code (4 : Nat) (Option.some Jvm.ClassFile.FieldType.int)) ∈ zTb := zin6 212 (by decide +kernel) rfl
theorem zw1416 : (Jvm.Cond.code ({ cls := "SlowerForTheLateModel", name := "fate", desc := "(II)I" } : Jvm.MethodName) prog_14_method_51_code (4 : Nat) (Option.some Jvm.ClassFile.FieldType.int)) ∈ zTb := zin6 216 (by decide +kernel) rfl
theorem zw1417 : (Jvm.Cond.methodLink "SlowerForTheLateModel" (228 : Nat) ({ cls := "SlowerForTheLateModel", name := "goes", desc := "()V" } : Jvm.MethodName)) ∈ zTb := zin6 217 (by decide +kernel) rfl
theorem zw1419 : (Jvm.Cond.instanceMethod ({ cls := "SlowerForTheLateModel", name := "goes", desc := "()V" } : Jvm.MethodName)) ∈ zTb := zin6 219 (by decide +kernel) rfl
theorem zw1420 : (Jvm.Cond.code ({ cls := "SlowerForTheLateModel", name := "goes", desc := "()V" } : Jvm.MethodName) prog_14_method_28_code (2 : Nat) (Option.none : Option Jvm.ClassFile.FieldType)) ∈ zTb := zin6 220 (by decide +kernel) rfl
theorem zw1421 : (Jvm.Cond.methodLink "SlowerForTheLateModel" (161 : Nat) ({ cls := "SlowerForTheLateModel", name := "begins", desc := "()V" } : Jvm.MethodName)) ∈ zTb := zin6 221 (by decide +kernel) rfl
theorem zw1423 : (Jvm.Cond.instanceMethod ({ cls := "SlowerForTheLateModel", name := "begins", desc := "()V" } : Jvm.MethodName)) ∈ zTb := zin6 223 (by decide +kernel) rfl
theorem zw1424 : (Jvm.Cond.code ({ cls := "SlowerForTheLateModel", name := "begins", desc := "()V" } : Jvm.MethodName) prog_14_method_21_code (4 : Nat) (Option.none : Option Jvm.ClassFile.FieldType)) ∈ zTb := zin6 224 (by decide +kernel) rfl
theorem zw1425 : (Jvm.Cond.methodLink "SlowerForTheLateModel" (164 : Nat) ({ cls := "SlowerForTheLateModel", name := "nextTrain", desc := "()I" } : Jvm.MethodName)) ∈ zTb := zin6 225 (by decide +kernel) rfl
theorem zw1427 : (Jvm.Cond.instanceMethod ({ cls := "SlowerForTheLateModel", name := "nextTrain", desc := "()I" } : Jvm.MethodName)) ∈ zTb := zin6 227 (by decide +kernel) rfl
theorem zw1428 : (Jvm.Cond.code ({ cls := "SlowerForTheLateModel", name := "nextTrain", desc := "()I" } : Jvm.MethodName) prog_14_method_22_code (3 : Nat) (Option.some Jvm.ClassFile.FieldType.int)) ∈ zTb := zin6 228 (by decide +kernel) rfl
theorem zw1429 : (Jvm.Cond.methodLink "SlowerForTheLateModel" (168 : Nat) ({ cls := "SlowerForTheLateModel", name := "stops", desc := "(I)V" } : Jvm.MethodName)) ∈ zTb := zin6 229 (by decide +kernel) rfl
theorem zw1431 : (Jvm.Cond.instanceMethod ({ cls := "SlowerForTheLateModel", name := "stops", desc := "(I)V" } : Jvm.MethodName)) ∈ zTb := zin6 231 (by decide +kernel) rfl
theorem zw1432 : (Jvm.Cond.code ({ cls := "SlowerForTheLateModel", name := "stops", desc := "(I)V" } : Jvm.MethodName) prog_14_method_27_code (5 : Nat) (Option.none : Option Jvm.ClassFile.FieldType)) ∈ zTb := zin6 232 (by decide +kernel) rfl
theorem zw1433 : (Jvm.Cond.methodLink "SlowerForTheLateModel" (150 : Nat) ({ cls := "SlowerForTheLateModel", name := "getsOff", desc := "(I)V" } : Jvm.MethodName)) ∈ zTb := zin6 233 (by decide +kernel) rfl
theorem zw1435 : (Jvm.Cond.instanceMethod ({ cls := "SlowerForTheLateModel", name := "getsOff", desc := "(I)V" } : Jvm.MethodName)) ∈ zTb := zin6 235 (by decide +kernel) rfl
theorem zw1436 : (Jvm.Cond.code ({ cls := "SlowerForTheLateModel", name := "getsOff", desc := "(I)V" } : Jvm.MethodName) prog_14_method_23_code (3 : Nat) (Option.none : Option Jvm.ClassFile.FieldType)) ∈ zTb := zin6 236 (by decide +kernel) rfl
theorem zw1437 : (Jvm.Cond.methodLink "SlowerForTheLateModel" (154 : Nat) ({ cls := "SlowerForTheLateModel", name := "asks", desc := "(I)I" } : Jvm.MethodName)) ∈ zTb := zin6 237 (by decide +kernel) rfl
theorem zw1439 : (Jvm.Cond.instanceMethod ({ cls := "SlowerForTheLateModel", name := "asks", desc := "(I)I" } : Jvm.MethodName)) ∈ zTb := zin6 239 (by decide +kernel) rfl
theorem zw1440 : (Jvm.Cond.code ({ cls := "SlowerForTheLateModel", name := "asks", desc := "(I)I" } : Jvm.MethodName) prog_14_method_25_code (5 : Nat) (Option.some Jvm.ClassFile.FieldType.int)) ∈ zTb := zin7 0 (by decide +kernel) rfl
theorem zw1441 : (Jvm.Cond.methodLink "SlowerForTheLateModel" (134 : Nat) ({ cls := "SlowerForTheLateModel", name := "from", desc := "(I)I" } : Jvm.MethodName)) ∈ zTb := zin7 1 (by decide +kernel) rfl
theorem zw1443 : (Jvm.Cond.instanceMethod ({ cls := "SlowerForTheLateModel", name := "from", desc := "(I)I" } : Jvm.MethodName)) ∈ zTb := zin7 3 (by decide +kernel) rfl
theorem zw1444 : (Jvm.Cond.code ({ cls := "SlowerForTheLateModel", name := "from", desc := "(I)I" } : Jvm.MethodName) prog_14_method_11_code (2 : Nat) (Option.some Jvm.ClassFile.FieldType.int)) ∈ zTb := zin7 4 (by decide +kernel) rfl
theorem zw1445 : (Jvm.Cond.methodLink "SlowerForTheLateModel" (137 : Nat) ({ cls := "SlowerForTheLateModel", name := "isAskedAhead", desc := "(II)Z" } : Jvm.MethodName)) ∈ zTb := zin7 5 (by decide +kernel) rfl
theorem zw1447 : (Jvm.Cond.instanceMethod ({ cls := "SlowerForTheLateModel", name := "isAskedAhead", desc := "(II)Z" } : Jvm.MethodName)) ∈ zTb := zin7 7 (by decide +kernel) rfl
theorem zw1448 : (Jvm.Cond.code ({ cls := "SlowerForTheLateModel", name := "isAskedAhead", desc := "(II)Z" } : Jvm.MethodName) prog_14_method_24_code (3 : Nat) (Option.some Jvm.ClassFile.FieldType.boolean)) ∈ zTb := zin7 8 (by decide +kernel) rfl
theorem zw1449 : (Jvm.Cond.methodLink "SlowerForTheLateModel" (157 : Nat) ({ cls := "SlowerForTheLateModel", name := "tries", desc := "(II)V" } : Jvm.MethodName)) ∈ zTb := zin7 9 (by decide +kernel) rfl
theorem zw1451 : (Jvm.Cond.instanceMethod ({ cls := "SlowerForTheLateModel", name := "tries", desc := "(II)V" } : Jvm.MethodName)) ∈ zTb := zin7 11 (by decide +kernel) rfl
theorem zw1452 : (Jvm.Cond.code ({ cls := "SlowerForTheLateModel", name := "tries", desc := "(II)V" } : Jvm.MethodName) prog_14_method_26_code (9 : Nat) (Option.none : Option Jvm.ClassFile.FieldType)) ∈ zTb := zin7 12 (by decide +kernel) rfl
theorem zw1456 : (Jvm.Cond.code ({ cls := "SlowerForTheLateModel", name := "when", desc := "(III)I" } : Jvm.MethodName) prog_14_method_52_code (4 : Nat) (Option.some Jvm.ClassFile.FieldType.int)) ∈ zTb := zin7 16 (by decide +kernel) rfl
theorem zw1460 : (Jvm.Cond.code ({ cls := "SlowerForTheLateModel", name := "sums", desc := "(I)I" } : Jvm.MethodName) prog_14_method_55_code (4 : Nat) (Option.some Jvm.ClassFile.FieldType.int)) ∈ zTb := zin7 20 (by decide +kernel) rfl
theorem zw1461 : (Jvm.Cond.methodLink "SlowerForTheLateModel" (231 : Nat) ({ cls := "SlowerForTheLateModel", name := "latest", desc := "()I" } : Jvm.MethodName)) ∈ zTb := zin7 21 (by decide +kernel) rfl
theorem zw1463 : (Jvm.Cond.instanceMethod ({ cls := "SlowerForTheLateModel", name := "latest", desc := "()I" } : Jvm.MethodName)) ∈ zTb := zin7 23 (by decide +kernel) rfl
theorem zw1464 : (Jvm.Cond.code ({ cls := "SlowerForTheLateModel", name := "latest", desc := "()I" } : Jvm.MethodName) prog_14_method_54_code (3 : Nat) (Option.some Jvm.ClassFile.FieldType.int)) ∈ zTb := zin7 24 (by decide +kernel) rfl
theorem zw1465 : (Jvm.Cond.methodLink "SlowerForTheLateModel" (234 : Nat) ({ cls := "SlowerForTheLateModel", name := "sumOf", desc := "(II)I" } : Jvm.MethodName)) ∈ zTb := zin7 25 (by decide +kernel) rfl
theorem zw1467 : (Jvm.Cond.instanceMethod ({ cls := "SlowerForTheLateModel", name := "sumOf", desc := "(II)I" } : Jvm.MethodName)) ∈ zTb := zin7 27 (by decide +kernel) rfl
theorem zw1468 : (Jvm.Cond.code ({ cls := "SlowerForTheLateModel", name := "sumOf", desc := "(II)I" } : Jvm.MethodName) prog_14_method_53_code (4 : Nat) (Option.some Jvm.ClassFile.FieldType.int)) ∈ zTb := zin7 28 (by decide +kernel) rfl
theorem zw1472 : (Jvm.Cond.code ({ cls := "SlowerForTheLateModel", name := "aboard", desc := "(III)I" } : Jvm.MethodName) prog_14_method_56_code (4 : Nat) (Option.some Jvm.ClassFile.FieldType.int)) ∈ zTb := zin7 32 (by decide +kernel) rfl
theorem zw1476 : (Jvm.Cond.code ({ cls := "SlowerForTheLateModel", name := "fullest", desc := "(II)I" } : Jvm.MethodName) prog_14_method_57_code (3 : Nat) (Option.some Jvm.ClassFile.FieldType.int)) ∈ zTb := zin7 36 (by decide +kernel) rfl
theorem zw1480 : (Jvm.Cond.code ({ cls := "SlowerForTheLateModel", name := "later", desc := "(II)I" } : Jvm.MethodName) prog_14_method_59_code (7 : Nat) (Option.some Jvm.ClassFile.FieldType.int)) ∈ zTb := zin7 40 (by decide +kernel) rfl
theorem zw1481 : (Jvm.Cond.methodLink "SlowerForTheLateModel" (237 : Nat) ({ cls := "SlowerForTheLateModel", name := "arrivesWith", desc := "(II)I" } : Jvm.MethodName)) ∈ zTb := zin7 41 (by decide +kernel) rfl
theorem zw1483 : (Jvm.Cond.instanceMethod ({ cls := "SlowerForTheLateModel", name := "arrivesWith", desc := "(II)I" } : Jvm.MethodName)) ∈ zTb := zin7 43 (by decide +kernel) rfl
theorem zw1484 : (Jvm.Cond.code ({ cls := "SlowerForTheLateModel", name := "arrivesWith", desc := "(II)I" } : Jvm.MethodName) prog_14_method_58_code (4 : Nat) (Option.some Jvm.ClassFile.FieldType.int)) ∈ zTb := zin7 44 (by decide +kernel) rfl
theorem zw1485 : (Jvm.Cond.methodLink "SlowerForTheLateModel" (171 : Nat) ({ cls := "SlowerForTheLateModel", name := "arrives", desc := "(I)I" } : Jvm.MethodName)) ∈ zTb := zin7 45 (by decide +kernel) rfl
theorem zw1487 : (Jvm.Cond.instanceMethod ({ cls := "SlowerForTheLateModel", name := "arrives", desc := "(I)I" } : Jvm.MethodName)) ∈ zTb := zin7 47 (by decide +kernel) rfl
theorem zw1488 : (Jvm.Cond.code ({ cls := "SlowerForTheLateModel", name := "arrives", desc := "(I)I" } : Jvm.MethodName) prog_14_method_29_code (2 : Nat) (Option.some Jvm.ClassFile.FieldType.int)) ∈ zTb := zin7 48 (by decide +kernel) rfl
theorem zw1492 : (Jvm.Cond.code ({ cls := "SlowerForTheLateModel", name := "slack", desc := "(I)I" } : Jvm.MethodName) prog_14_method_60_code (5 : Nat) (Option.some Jvm.ClassFile.FieldType.int)) ∈ zTb := zin7 52 (by decide +kernel) rfl
theorem zw1496 : (Jvm.Cond.code ({ cls := "SlowerForTheLateModel", name := "odds", desc := "(I)I" } : Jvm.MethodName) prog_14_method_62_code (2 : Nat) (Option.some Jvm.ClassFile.FieldType.int)) ∈ zTb := zin7 56 (by decide +kernel) rfl
theorem zw1497 : (Jvm.Cond.methodLink "SlowerForTheLateModel" (246 : Nat) ({ cls := "SlowerForTheLateModel", name := "tens", desc := "(I)V" } : Jvm.MethodName)) ∈ zTb := zin7 57 (by decide +kernel) rfl
theorem zw1499 : (Jvm.Cond.instanceMethod ({ cls := "SlowerForTheLateModel", name := "tens", desc := "(I)V" } : Jvm.MethodName)) ∈ zTb := zin7 59 (by decide +kernel) rfl
theorem zw1500 : (Jvm.Cond.code ({ cls := "SlowerForTheLateModel", name := "tens", desc := "(I)V" } : Jvm.MethodName) prog_14_method_61_code (4 : Nat) (Option.none : Option Jvm.ClassFile.FieldType)) ∈ zTb := zin7 60 (by decide +kernel) rfl
theorem zw1504 : (Jvm.Cond.code ({ cls := "SlowerForTheLateModel", name := "mean", desc := "(II)J" } : Jvm.MethodName) prog_14_method_64_code (3 : Nat) (Option.some Jvm.ClassFile.FieldType.long)) ∈ zTb := zin7 64 (by decide +kernel) rfl
theorem zw1505 : (Jvm.Cond.constantLong "SlowerForTheLateModel" (249 : Nat) (-1000000001 : Int64)) ∈ zTb := zin7 65 (by decide +kernel) rfl
theorem zw1506 : (Jvm.Cond.methodLink "SlowerForTheLateModel" (251 : Nat) ({ cls := "SlowerForTheLateModel", name := "gcd", desc := "(JJ)J" } : Jvm.MethodName)) ∈ zTb := zin7 66 (by decide +kernel) rfl
theorem zw1507 : (Jvm.Cond.static ({ cls := "SlowerForTheLateModel", name := "gcd", desc := "(JJ)J" } : Jvm.MethodName)) ∈ zTb := zin7 67 (by decide +kernel) rfl
theorem zw1508 : (Jvm.Cond.code ({ cls := "SlowerForTheLateModel", name := "gcd", desc := "(JJ)J" } : Jvm.MethodName) prog_14_method_63_code (10 : Nat) (Option.some Jvm.ClassFile.FieldType.long)) ∈ zTb := zin7 68 (by decide +kernel) rfl
theorem zw1512 : (Jvm.Cond.code ({ cls := "SlowerForTheLateModel", name := "two", desc := "(II)I" } : Jvm.MethodName) prog_14_method_66_code (6 : Nat) (Option.some Jvm.ClassFile.FieldType.int)) ∈ zTb := zin7 72 (by decide +kernel) rfl
theorem zw1513 : (Jvm.Cond.methodLink "SlowerForTheLateModel" (255 : Nat) ({ cls := "SlowerForTheLateModel", name := "choices", desc := "(II)V" } : Jvm.MethodName)) ∈ zTb := zin7 73 (by decide +kernel) rfl
theorem zw1515 : (Jvm.Cond.instanceMethod ({ cls := "SlowerForTheLateModel", name := "choices", desc := "(II)V" } : Jvm.MethodName)) ∈ zTb := zin7 75 (by decide +kernel) rfl
theorem zw1516 : (Jvm.Cond.code ({ cls := "SlowerForTheLateModel", name := "choices", desc := "(II)V" } : Jvm.MethodName) prog_14_method_65_code (6 : Nat) (Option.none : Option Jvm.ClassFile.FieldType)) ∈ zTb := zin7 76 (by decide +kernel) rfl
theorem zw1520 : (Jvm.Cond.code ({ cls := "SlowerForTheLateModel", name := "whose", desc := "(I)I" } : Jvm.MethodName) prog_14_method_67_code (5 : Nat) (Option.some Jvm.ClassFile.FieldType.int)) ∈ zTb := zin7 80 (by decide +kernel) rfl
theorem zw1524 : (Jvm.Cond.code ({ cls := "SlowerForTheLateModel", name := "together", desc := "(II)I" } : Jvm.MethodName) prog_14_method_68_code (3 : Nat) (Option.some Jvm.ClassFile.FieldType.int)) ∈ zTb := zin7 84 (by decide +kernel) rfl
theorem zw1528 : (Jvm.Cond.code ({ cls := "SlowerForTheLateModel", name := "cancel", desc := "(I)I" } : Jvm.MethodName) prog_14_method_70_code (4 : Nat) (Option.some Jvm.ClassFile.FieldType.int)) ∈ zTb := zin7 88 (by decide +kernel) rfl
theorem zw1529 : (Jvm.Cond.constant "SlowerForTheLateModel" (261 : Nat) (-1000000001 : Int32)) ∈ zTb := zin7 89 (by decide +kernel) rfl
theorem zw1530 : (Jvm.Cond.methodLink "SlowerForTheLateModel" (262 : Nat) ({ cls := "SlowerForTheLateModel", name := "manyNow", desc := "()I" } : Jvm.MethodName)) ∈ zTb := zin7 90 (by decide +kernel) rfl
theorem zw1532 : (Jvm.Cond.instanceMethod ({ cls := "SlowerForTheLateModel", name := "manyNow", desc := "()I" } : Jvm.MethodName)) ∈ zTb := zin7 92 (by decide +kernel) rfl
theorem zw1533 : (Jvm.Cond.code ({ cls := "SlowerForTheLateModel", name := "manyNow", desc := "()I" } : Jvm.MethodName) prog_14_method_69_code (1 : Nat) (Option.some Jvm.ClassFile.FieldType.int)) ∈ zTb := zin7 93 (by decide +kernel) rfl
theorem zw1534 : (Jvm.Cond.methodLink "SlowerForTheLateModel" (258 : Nat) ({ cls := "SlowerForTheLateModel", name := "arriveMany", desc := "()I" } : Jvm.MethodName)) ∈ zTb := zin7 94 (by decide +kernel) rfl
theorem zw1536 : (Jvm.Cond.instanceMethod ({ cls := "SlowerForTheLateModel", name := "arriveMany", desc := "()I" } : Jvm.MethodName)) ∈ zTb := zin7 96 (by decide +kernel) rfl
theorem zw1537 : (Jvm.Cond.code ({ cls := "SlowerForTheLateModel", name := "arriveMany", desc := "()I" } : Jvm.MethodName) prog_14_method_30_code (3 : Nat) (Option.some Jvm.ClassFile.FieldType.int)) ∈ zTb := zin7 97 (by decide +kernel) rfl
theorem zw1541 : (Jvm.Cond.code ({ cls := "SlowerForTheLateModel", name := "strike", desc := "()I" } : Jvm.MethodName) prog_14_method_71_code (2 : Nat) (Option.some Jvm.ClassFile.FieldType.int)) ∈ zTb := zin7 101 (by decide +kernel) rfl
theorem zw1545 : (Jvm.Cond.code ({ cls := "SlowerForTheLateModel", name := "snow", desc := "(I)I" } : Jvm.MethodName) prog_14_method_72_code (3 : Nat) (Option.some Jvm.ClassFile.FieldType.int)) ∈ zTb := zin7 105 (by decide +kernel) rfl
theorem zw1549 : (Jvm.Cond.code ({ cls := "SlowerForTheLateModel", name := "law", desc := "(I)I" } : Jvm.MethodName) prog_14_method_74_code (3 : Nat) (Option.some Jvm.ClassFile.FieldType.int)) ∈ zTb := zin7 109 (by decide +kernel) rfl
theorem zw1550 : (Jvm.Cond.methodLink "SlowerForTheLateModel" (265 : Nat) ({ cls := "SlowerForTheLateModel", name := "goesWith", desc := "(II)V" } : Jvm.MethodName)) ∈ zTb := zin7 110 (by decide +kernel) rfl
theorem zw1552 : (Jvm.Cond.instanceMethod ({ cls := "SlowerForTheLateModel", name := "goesWith", desc := "(II)V" } : Jvm.MethodName)) ∈ zTb := zin7 112 (by decide +kernel) rfl
theorem zw1553 : (Jvm.Cond.code ({ cls := "SlowerForTheLateModel", name := "goesWith", desc := "(II)V" } : Jvm.MethodName) prog_14_method_73_code (4 : Nat) (Option.none : Option Jvm.ClassFile.FieldType)) ∈ zTb := zin7 113 (by decide +kernel) rfl
theorem zw1557 : (Jvm.Cond.code ({ cls := "SlowerForTheLateModel", name := "bestLate", desc := "()I" } : Jvm.MethodName) prog_14_method_75_code (4 : Nat) (Option.some Jvm.ClassFile.FieldType.int)) ∈ zTb := zin7 117 (by decide +kernel) rfl
theorem zw1561 : (Jvm.Cond.code ({ cls := "SlowerForTheLateModel", name := "worth", desc := "()I" } : Jvm.MethodName) prog_14_method_76_code (1 : Nat) (Option.some Jvm.ClassFile.FieldType.int)) ∈ zTb := zin7 121 (by decide +kernel) rfl
theorem zw1562 : (Jvm.Cond.methodLink "SlowerForTheLateModel" (268 : Nat) ({ cls := "SlowerForTheLateModel", name := "allMinutes", desc := "()I" } : Jvm.MethodName)) ∈ zTb := zin7 122 (by decide +kernel) rfl
theorem zw1564 : (Jvm.Cond.instanceMethod ({ cls := "SlowerForTheLateModel", name := "allMinutes", desc := "()I" } : Jvm.MethodName)) ∈ zTb := zin7 124 (by decide +kernel) rfl
theorem zw1565 : (Jvm.Cond.code ({ cls := "SlowerForTheLateModel", name := "allMinutes", desc := "()I" } : Jvm.MethodName) prog_14_method_31_code (3 : Nat) (Option.some Jvm.ClassFile.FieldType.int)) ∈ zTb := zin7 125 (by decide +kernel) rfl
theorem zw1569 : (Jvm.Cond.code ({ cls := "SlowerForTheLateModel", name := "bestGap", desc := "()I" } : Jvm.MethodName) prog_14_method_78_code (1 : Nat) (Option.some Jvm.ClassFile.FieldType.int)) ∈ zTb := zin7 129 (by decide +kernel) rfl
theorem zw1570 : (Jvm.Cond.methodLink "SlowerForTheLateModel" (272 : Nat) ({ cls := "SlowerForTheLateModel", name := "bestIn", desc := "(IIII)I" } : Jvm.MethodName)) ∈ zTb := zin7 130 (by decide +kernel) rfl
theorem zw1572 : (Jvm.Cond.instanceMethod ({ cls := "SlowerForTheLateModel", name := "bestIn", desc := "(IIII)I" } : Jvm.MethodName)) ∈ zTb := zin7 132 (by decide +kernel) rfl
theorem zw1573 : (Jvm.Cond.code ({ cls := "SlowerForTheLateModel", name := "bestIn", desc := "(IIII)I" } : Jvm.MethodName) prog_14_method_77_code (8 : Nat) (Option.some Jvm.ClassFile.FieldType.int)) ∈ zTb := zin7 133 (by decide +kernel) rfl
theorem zw1574 : (Jvm.Cond.constant "SlowerForTheLateModel" (271 : Nat) (1000000000 : Int32)) ∈ zTb := zin7 134 (by decide +kernel) rfl
theorem zw1578 : (Jvm.Cond.code ({ cls := "SlowerForTheLateModel", name := "bestStart", desc := "(I)I" } : Jvm.MethodName) prog_14_method_79_code (3 : Nat) (Option.some Jvm.ClassFile.FieldType.int)) ∈ zTb := zin7 138 (by decide +kernel) rfl
theorem zw1582 : (Jvm.Cond.code ({ cls := "SlowerForTheLateModel", name := "need", desc := "(I)I" } : Jvm.MethodName) prog_14_method_80_code (3 : Nat) (Option.some Jvm.ClassFile.FieldType.int)) ∈ zTb := zin7 142 (by decide +kernel) rfl
theorem zw1586 : (Jvm.Cond.code ({ cls := "SlowerForTheLateModel", name := "extra", desc := "()I" } : Jvm.MethodName) prog_14_method_81_code (3 : Nat) (Option.some Jvm.ClassFile.FieldType.int)) ∈ zTb := zin7 146 (by decide +kernel) rfl
theorem zw1590 : (Jvm.Cond.code ({ cls := "SlowerForTheLateModel", name := "tickets", desc := "(II)I" } : Jvm.MethodName) prog_14_method_86_code (7 : Nat) (Option.some Jvm.ClassFile.FieldType.int)) ∈ zTb := zin7 150 (by decide +kernel) rfl
theorem zw1591 : (Jvm.Cond.methodLink "SlowerForTheLateModel" (283 : Nat) ({ cls := "SlowerForTheLateModel", name := "wrongTickets", desc := "(I)I" } : Jvm.MethodName)) ∈ zTb := zin7 151 (by decide +kernel) rfl
theorem zw1593 : (Jvm.Cond.instanceMethod ({ cls := "SlowerForTheLateModel", name := "wrongTickets", desc := "(I)I" } : Jvm.MethodName)) ∈ zTb := zin7 153 (by decide +kernel) rfl
theorem zw1594 : (Jvm.Cond.code ({ cls := "SlowerForTheLateModel", name := "wrongTickets", desc := "(I)I" } : Jvm.MethodName) prog_14_method_85_code (3 : Nat) (Option.some Jvm.ClassFile.FieldType.int)) ∈ zTb := zin7 154 (by decide +kernel) rfl
theorem zw1595 : (Jvm.Cond.methodLink "SlowerForTheLateModel" (286 : Nat) ({ cls := "SlowerForTheLateModel", name := "wrongTicket", desc := "(I)I" } : Jvm.MethodName)) ∈ zTb := zin7 155 (by decide +kernel) rfl
theorem zw1597 : (Jvm.Cond.instanceMethod ({ cls := "SlowerForTheLateModel", name := "wrongTicket", desc := "(I)I" } : Jvm.MethodName)) ∈ zTb := zin7 157 (by decide +kernel) rfl
theorem zw1598 : (Jvm.Cond.code ({ cls := "SlowerForTheLateModel", name := "wrongTicket", desc := "(I)I" } : Jvm.MethodName) prog_14_method_84_code (4 : Nat) (Option.some Jvm.ClassFile.FieldType.int)) ∈ zTb := zin7 158 (by decide +kernel) rfl
theorem zw1599 : (Jvm.Cond.methodLink "SlowerForTheLateModel" (277 : Nat) ({ cls := "SlowerForTheLateModel", name := "leastOf", desc := "(I)I" } : Jvm.MethodName)) ∈ zTb := zin7 159 (by decide +kernel) rfl
theorem zw1601 : (Jvm.Cond.instanceMethod ({ cls := "SlowerForTheLateModel", name := "leastOf", desc := "(I)I" } : Jvm.MethodName)) ∈ zTb := zin7 161 (by decide +kernel) rfl
theorem zw1602 : (Jvm.Cond.code ({ cls := "SlowerForTheLateModel", name := "leastOf", desc := "(I)I" } : Jvm.MethodName) prog_14_method_82_code (2 : Nat) (Option.some Jvm.ClassFile.FieldType.int)) ∈ zTb := zin7 162 (by decide +kernel) rfl
theorem zw1603 : (Jvm.Cond.constant "SlowerForTheLateModel" (276 : Nat) (-2147483648 : Int32)) ∈ zTb := zin7 163 (by decide +kernel) rfl
theorem zw1604 : (Jvm.Cond.methodLink "SlowerForTheLateModel" (280 : Nat) ({ cls := "SlowerForTheLateModel", name := "ticketOf", desc := "(I)I" } : Jvm.MethodName)) ∈ zTb := zin7 164 (by decide +kernel) rfl
theorem zw1606 : (Jvm.Cond.instanceMethod ({ cls := "SlowerForTheLateModel", name := "ticketOf", desc := "(I)I" } : Jvm.MethodName)) ∈ zTb := zin7 166 (by decide +kernel) rfl
theorem zw1607 : (Jvm.Cond.code ({ cls := "SlowerForTheLateModel", name := "ticketOf", desc := "(I)I" } : Jvm.MethodName) prog_14_method_83_code (2 : Nat) (Option.some Jvm.ClassFile.FieldType.int)) ∈ zTb := zin7 167 (by decide +kernel) rfl
theorem zw1611 : (Jvm.Cond.code ({ cls := "SlowerForTheLateModel", name := "forged", desc := "(I)I" } : Jvm.MethodName) prog_14_method_87_code (5 : Nat) (Option.some Jvm.ClassFile.FieldType.int)) ∈ zTb := zin7 171 (by decide +kernel) rfl
theorem zw1615 : (Jvm.Cond.code ({ cls := "SlowerForTheLateModel", name := "came", desc := "(III)I" } : Jvm.MethodName) prog_14_method_88_code (7 : Nat) (Option.some Jvm.ClassFile.FieldType.int)) ∈ zTb := zin7 175 (by decide +kernel) rfl
theorem zw1619 : (Jvm.Cond.code ({ cls := "SlowerForTheLateModel", name := "sure", desc := "(II)I" } : Jvm.MethodName) prog_14_method_89_code (8 : Nat) (Option.some Jvm.ClassFile.FieldType.int)) ∈ zTb := zin7 179 (by decide +kernel) rfl
theorem zw1623 : (Jvm.Cond.code ({ cls := "SlowerForTheLateModel", name := "judge", desc := "(II)I" } : Jvm.MethodName) prog_14_method_91_code (6 : Nat) (Option.some Jvm.ClassFile.FieldType.int)) ∈ zTb := zin7 183 (by decide +kernel) rfl
theorem zw1624 : (Jvm.Cond.methodLink "SlowerForTheLateModel" (289 : Nat) ({ cls := "SlowerForTheLateModel", name := "placeAt", desc := "(II)I" } : Jvm.MethodName)) ∈ zTb := zin7 184 (by decide +kernel) rfl
theorem zw1626 : (Jvm.Cond.instanceMethod ({ cls := "SlowerForTheLateModel", name := "placeAt", desc := "(II)I" } : Jvm.MethodName)) ∈ zTb := zin7 186 (by decide +kernel) rfl
theorem zw1627 : (Jvm.Cond.code ({ cls := "SlowerForTheLateModel", name := "placeAt", desc := "(II)I" } : Jvm.MethodName) prog_14_method_90_code (3 : Nat) (Option.some Jvm.ClassFile.FieldType.int)) ∈ zTb := zin7 187 (by decide +kernel) rfl
theorem zw1631 : (Jvm.Cond.code ({ cls := "SlowerForTheLateModel", name := "mornings", desc := "(III)I" } : Jvm.MethodName) prog_14_method_93_code (7 : Nat) (Option.some Jvm.ClassFile.FieldType.int)) ∈ zTb := zin7 191 (by decide +kernel) rfl
theorem zw1632 : (Jvm.Cond.methodLink "SlowerForTheLateModel" (298 : Nat) ({ cls := "SlowerForTheLateModel", name := "drawn", desc := "(I)I" } : Jvm.MethodName)) ∈ zTb := zin7 192 (by decide +kernel) rfl
theorem zw1634 : (Jvm.Cond.instanceMethod ({ cls := "SlowerForTheLateModel", name := "drawn", desc := "(I)I" } : Jvm.MethodName)) ∈ zTb := zin7 194 (by decide +kernel) rfl
theorem zw1635 : (Jvm.Cond.code ({ cls := "SlowerForTheLateModel", name := "drawn", desc := "(I)I" } : Jvm.MethodName) prog_14_method_92_code (2 : Nat) (Option.some Jvm.ClassFile.FieldType.int)) ∈ zTb := zin7 195 (by decide +kernel) rfl
theorem zw1636 : (Jvm.Cond.constant "SlowerForTheLateModel" (295 : Nat) (1103515245 : Int32)) ∈ zTb := zin7 196 (by decide +kernel) rfl
theorem zw1637 : (Jvm.Cond.constant "SlowerForTheLateModel" (296 : Nat) (2147483647 : Int32)) ∈ zTb := zin7 197 (by decide +kernel) rfl
theorem zw1638 : (Jvm.Cond.constant "SlowerForTheLateModel" (297 : Nat) (65536 : Int32)) ∈ zTb := zin7 198 (by decide +kernel) rfl
theorem zw1642 : (Jvm.Cond.code ({ cls := "SlowerForTheLateModel", name := "image", desc := "()I" } : Jvm.MethodName) prog_14_method_94_code (1 : Nat) (Option.some Jvm.ClassFile.FieldType.int)) ∈ zTb := zin7 202 (by decide +kernel) rfl
theorem zw1646 : (Jvm.Cond.code ({ cls := "SlowerForTheLateModel", name := "restore", desc := "()I" } : Jvm.MethodName) prog_14_method_95_code (1 : Nat) (Option.some Jvm.ClassFile.FieldType.int)) ∈ zTb := zin7 206 (by decide +kernel) rfl
theorem zw1650 : (Jvm.Cond.code ({ cls := "SlowerForTheLateModel", name := "count", desc := "(I)I" } : Jvm.MethodName) prog_14_method_96_code (2 : Nat) (Option.some Jvm.ClassFile.FieldType.int)) ∈ zTb := zin7 210 (by decide +kernel) rfl
theorem zw1654 : (Jvm.Cond.code ({ cls := "SlowerForTheLateModel", name := "thrown", desc := "()I" } : Jvm.MethodName) prog_14_method_97_code (1 : Nat) (Option.some Jvm.ClassFile.FieldType.int)) ∈ zTb := zin7 214 (by decide +kernel) rfl
theorem zw1658 : (Jvm.Cond.code ({ cls := "SlowerForTheLateModel", name := "keep", desc := "(IIII)I" } : Jvm.MethodName) prog_14_method_101_code (5 : Nat) (Option.some Jvm.ClassFile.FieldType.int)) ∈ zTb := zin7 218 (by decide +kernel) rfl
theorem zw1662 : (Jvm.Cond.code ({ cls := "SlowerForTheLateModel", name := "row", desc := "(III)I" } : Jvm.MethodName) prog_14_method_102_code (5 : Nat) (Option.some Jvm.ClassFile.FieldType.int)) ∈ zTb := zin7 222 (by decide +kernel) rfl
theorem zw1666 : (Jvm.Cond.code ({ cls := "SlowerForTheLateModel", name := "put", desc := "(III)I" } : Jvm.MethodName) prog_14_method_103_code (5 : Nat) (Option.some Jvm.ClassFile.FieldType.int)) ∈ zTb := zin7 226 (by decide +kernel) rfl
theorem zw1670 : (Jvm.Cond.code ({ cls := "SlowerForTheLateModel", name := "element", desc := "(II)J" } : Jvm.MethodName) prog_14_method_104_code (3 : Nat) (Option.some Jvm.ClassFile.FieldType.long)) ∈ zTb := zin7 230 (by decide +kernel) rfl
theorem zw1674 : (Jvm.Cond.code ({ cls := "SlowerForTheLateModel", name := "copy", desc := "(IIIII)I" } : Jvm.MethodName) prog_14_method_105_code (8 : Nat) (Option.some Jvm.ClassFile.FieldType.int)) ∈ zTb := zin7 234 (by decide +kernel) rfl
theorem zw1678 : (Jvm.Cond.code ({ cls := "SlowerForTheLateModel", name := "cost", desc := "(I)I" } : Jvm.MethodName) prog_14_method_107_code (3 : Nat) (Option.some Jvm.ClassFile.FieldType.int)) ∈ zTb := zin7 238 (by decide +kernel) rfl
theorem zw1679 : (Jvm.Cond.methodLink "SlowerForTheLateModel" (308 : Nat) ({ cls := "SlowerForTheLateModel", name := "costBy", desc := "(II)I" } : Jvm.MethodName)) ∈ zTb := zin7 239 (by decide +kernel) rfl
theorem zw1680 : (Jvm.Cond.static ({ cls := "SlowerForTheLateModel", name := "costBy", desc := "(II)I" } : Jvm.MethodName)) ∈ zTb := zin8 0 (by decide +kernel) rfl
theorem zw1681 : (Jvm.Cond.code ({ cls := "SlowerForTheLateModel", name := "costBy", desc := "(II)I" } : Jvm.MethodName) prog_14_method_106_code (2 : Nat) (Option.some Jvm.ClassFile.FieldType.int)) ∈ zTb := zin8 1 (by decide +kernel) rfl
theorem zw1685 : (Jvm.Cond.code ({ cls := "SlowerForTheLateModel", name := "toss", desc := "(I)I" } : Jvm.MethodName) prog_14_method_108_code (5 : Nat) (Option.some Jvm.ClassFile.FieldType.int)) ∈ zTb := zin8 5 (by decide +kernel) rfl
theorem zw1687 : (Jvm.Cond.sameMethod "SlowerForTheLate$Tardy" "SlowerForTheLate$Tardy" "comesAt" "(I)I") ∈ zTb := zin8 7 (by decide +kernel) rfl
theorem zw1688 : (Jvm.Cond.sameMethod "SlowerForTheLate$Runner" "SlowerForTheLate$Runner" "comesAt" "(I)I") ∈ zTb := zin8 8 (by decide +kernel) rfl
theorem zw1689 : (Jvm.Cond.sameMethod "SlowerForTheLate$Tardy" "SlowerForTheLate$Tardy" "excuse" "()I") ∈ zTb := zin8 9 (by decide +kernel) rfl
theorem zw1690 : (Jvm.Cond.sameMethod "SlowerForTheLate$Runner" "SlowerForTheLate$Runner" "excuse" "()I") ∈ zTb := zin8 10 (by decide +kernel) rfl
theorem zw1691 : (Jvm.Cond.sameMethod "SlowerForTheLate$Runner" "SlowerForTheLate$Runner" "rank" "()I") ∈ zTb := zin8 11 (by decide +kernel) rfl
theorem zw1692 : (Jvm.Cond.sameMethod "SlowerForTheLate$Tardy" "SlowerForTheLate$Tardy" "price" "()I") ∈ zTb := zin8 12 (by decide +kernel) rfl
theorem zw1693 : (Jvm.Cond.selects "SlowerForTheLate$Aimer" ({ cls := "SlowerForTheLate$Tardy", name := "excuse", desc := "()I" } : Jvm.MethodName) ({ cls := "SlowerForTheLate$Aimer", name := "excuse", desc := "()I" } : Jvm.MethodName)) ∈ zTb := zin8 13 (by decide +kernel) rfl
theorem zw1694 : (Jvm.Cond.selects "SlowerForTheLate$Lover" ({ cls := "SlowerForTheLate$Tardy", name := "excuse", desc := "()I" } : Jvm.MethodName) ({ cls := "SlowerForTheLate$Lover", name := "excuse", desc := "()I" } : Jvm.MethodName)) ∈ zTb := zin8 14 (by decide +kernel) rfl
theorem zw1695 : (Jvm.Cond.selects "SlowerForTheLate$Tardy" ({ cls := "SlowerForTheLate$Tardy", name := "excuse", desc := "()I" } : Jvm.MethodName) ({ cls := "SlowerForTheLate$Tardy", name := "excuse", desc := "()I" } : Jvm.MethodName)) ∈ zTb := zin8 15 (by decide +kernel) rfl
theorem zw1696 : (Jvm.Cond.sameMethod "SlowerForTheLate$Runner" "SlowerForTheLate$Runner" "price" "()I") ∈ zTb := zin8 16 (by decide +kernel) rfl
theorem zcal_X0_init : zCal M_X0_init 2 := ⟨zw363, by decide, by decide, by decide, by decide +kernel⟩
theorem zcal_X0_excuse : zCal M_X0_excuse 0 := ⟨zw448, by decide, by decide, by decide, by decide +kernel⟩
theorem zcal_X0_boards : zCal M_X0_boards 1 := ⟨zw544, by decide, by decide, by decide, by decide +kernel⟩
theorem zcal_X0_price : zCal M_X0_price 0 := ⟨zw973, by decide, by decide, by decide, by decide +kernel⟩
theorem zcal_X0_fail : zCal M_X0_fail 0 := ⟨zw1017, by decide, by decide, by decide, by decide +kernel⟩
theorem zcal_X1_init : zCal M_X1_init 2 := ⟨zw336, by decide, by decide, by decide, by decide +kernel⟩
theorem zcal_X1_comesAt : zCal M_X1_comesAt 1 := ⟨zw424, by decide, by decide, by decide, by decide +kernel⟩
theorem zcal_X1_excuse : zCal M_X1_excuse 0 := ⟨zw456, by decide, by decide, by decide, by decide +kernel⟩
theorem zcal_X1_rank : zCal M_X1_rank 0 := ⟨zw483, by decide, by decide, by decide, by decide +kernel⟩
theorem zcal_X1_price : zCal M_X1_price 0 := ⟨zw981, by decide, by decide, by decide, by decide +kernel⟩
theorem zcal_X2_init : zCal M_X2_init 2 := ⟨zw372, by decide, by decide, by decide, by decide +kernel⟩
theorem zcal_X2_excuse : zCal M_X2_excuse 0 := ⟨zw460, by decide, by decide, by decide, by decide +kernel⟩
theorem zcal_X2_places : zCal M_X2_places 0 := ⟨zw507, by decide, by decide, by decide, by decide +kernel⟩
theorem zcal_X2_refundFor : zCal M_X2_refundFor 1 := ⟨zw568, by decide, by decide, by decide, by decide +kernel⟩
theorem zcal_X2_price : zCal M_X2_price 0 := ⟨zw985, by decide, by decide, by decide, by decide +kernel⟩
theorem zcal_X3_init : zCal M_X3_init 0 := ⟨zw35, by decide, by decide, by decide, by decide +kernel⟩
theorem zcal_X3_isStop : zCal M_X3_isStop 1 := ⟨zw310, by decide, by decide, by decide, by decide +kernel⟩
theorem zcal_X3_isPiece : zCal M_X3_isPiece 1 := ⟨zw277, by decide, by decide, by decide, by decide +kernel⟩
theorem zcal_X3_isRun : zCal M_X3_isRun 1 := ⟨zw280, by decide, by decide, by decide, by decide +kernel⟩
theorem zcal_X3_isStart : zCal M_X3_isStart 1 := ⟨zw287, by decide, by decide, by decide, by decide +kernel⟩
theorem zcal_X3_isSeats : zCal M_X3_isSeats 1 := ⟨zw290, by decide, by decide, by decide, by decide +kernel⟩
theorem zcal_X3_isBase : zCal M_X3_isBase 1 := ⟨zw307, by decide, by decide, by decide, by decide +kernel⟩
theorem zcal_X3_isRule : zCal M_X3_isRule 2 := ⟨zw389, by decide, by decide, by decide, by decide +kernel⟩
theorem zcal_X3_numberOf : zCal M_X3_numberOf 2 := ⟨zw652, by decide, by decide, by decide, by decide +kernel⟩
theorem zcal_X3_isPerson : zCal M_X3_isPerson 1 := ⟨zw413, by decide, by decide, by decide, by decide +kernel⟩
theorem zcal_X3_isTrain : zCal M_X3_isTrain 1 := ⟨zw401, by decide, by decide, by decide, by decide +kernel⟩
theorem zcal_X3_addPerson : zCal M_X3_addPerson 4 := ⟨zw382, by decide, by decide, by decide, by decide +kernel⟩
theorem zcal_X3_dropPerson : zCal M_X3_dropPerson 1 := ⟨zw591, by decide, by decide, by decide, by decide +kernel⟩
theorem zcal_X3_addTrain : zCal M_X3_addTrain 2 := ⟨zw294, by decide, by decide, by decide, by decide +kernel⟩
theorem zcal_X3_turnCancelled : zCal M_X3_turnCancelled 1 := ⟨zw405, by decide, by decide, by decide, by decide +kernel⟩
theorem zcal_X3_cancelledBits : zCal M_X3_cancelledBits 0 := ⟨zw907, by decide, by decide, by decide, by decide +kernel⟩
theorem zcal_X3_allRuns : zCal M_X3_allRuns 0 := ⟨zw911, by decide, by decide, by decide, by decide +kernel⟩
theorem zcal_X3_ride : zCal M_X3_ride 2 := ⟨zw693, by decide, by decide, by decide, by decide +kernel⟩
theorem zcal_X3_become : zCal M_X3_become 1 := ⟨zw257, by decide, by decide, by decide, by decide +kernel⟩
theorem zcal_X3_tell : zCal M_X3_tell 2 := ⟨zw264, by decide, by decide, by decide, by decide +kernel⟩
theorem zcal_X3_tellRun : zCal M_X3_tellRun 2 := ⟨zw274, by decide, by decide, by decide, by decide +kernel⟩
theorem zcal_X3_tellTrain : zCal M_X3_tellTrain 2 := ⟨zw284, by decide, by decide, by decide, by decide +kernel⟩
theorem zcal_X3_tellPerson : zCal M_X3_tellPerson 2 := ⟨zw298, by decide, by decide, by decide, by decide +kernel⟩
theorem zcal_X3_tellRule : zCal M_X3_tellRule 2 := ⟨zw386, by decide, by decide, by decide, by decide +kernel⟩
theorem zcal_X3_tellCancelled : zCal M_X3_tellCancelled 1 := ⟨zw397, by decide, by decide, by decide, by decide +kernel⟩
theorem zcal_X4_init : zCal M_X4_init 2 := ⟨zw926, by decide, by decide, by decide, by decide +kernel⟩
theorem zcal_X4_size : zCal M_X4_size 0 := ⟨zw253, by decide, by decide, by decide, by decide +kernel⟩
theorem zcal_X4_has : zCal M_X4_has 1 := ⟨zw246, by decide, by decide, by decide, by decide +kernel⟩
theorem zcal_X4_hasRun : zCal M_X4_hasRun 2 := ⟨zw957, by decide, by decide, by decide, by decide +kernel⟩
theorem zcal_X4_at : zCal M_X4_at 1 := ⟨zw242, by decide, by decide, by decide, by decide +kernel⟩
theorem zcal_X4_write : zCal M_X4_write 2 := ⟨zw945, by decide, by decide, by decide, by decide +kernel⟩
theorem zcal_X4_narrowed : zCal M_X4_narrowed 1 := ⟨zw949, by decide, by decide, by decide, by decide +kernel⟩
theorem zcal_X4_isSkipped : zCal M_X4_isSkipped 1 := ⟨zw863, by decide, by decide, by decide, by decide +kernel⟩
theorem zcal_X4_number : zCal M_X4_number 2 := ⟨zw269, by decide, by decide, by decide, by decide +kernel⟩
theorem zcal_X5_init : zCal M_X5_init 2 := ⟨zw318, by decide, by decide, by decide, by decide +kernel⟩
theorem zcal_X5_comesAt : zCal M_X5_comesAt 1 := ⟨zw429, by decide, by decide, by decide, by decide +kernel⟩
theorem zcal_X5_excuse : zCal M_X5_excuse 0 := ⟨zw464, by decide, by decide, by decide, by decide +kernel⟩
theorem zcal_X5_rank : zCal M_X5_rank 0 := ⟨zw490, by decide, by decide, by decide, by decide +kernel⟩
theorem zcal_X5_price : zCal M_X5_price 0 := ⟨zw989, by decide, by decide, by decide, by decide +kernel⟩
theorem zcal_X6_init : zCal M_X6_init 2 := ⟨zw354, by decide, by decide, by decide, by decide +kernel⟩
theorem zcal_X6_excuse : zCal M_X6_excuse 0 := ⟨zw468, by decide, by decide, by decide, by decide +kernel⟩
theorem zcal_X6_offAt : zCal M_X6_offAt 1 := ⟨zw523, by decide, by decide, by decide, by decide +kernel⟩
theorem zcal_X6_price : zCal M_X6_price 0 := ⟨zw993, by decide, by decide, by decide, by decide +kernel⟩
theorem zcal_X7_init : zCal M_X7_init 2 := ⟨zw345, by decide, by decide, by decide, by decide +kernel⟩
theorem zcal_X7_comesAt : zCal M_X7_comesAt 1 := ⟨zw437, by decide, by decide, by decide, by decide +kernel⟩
theorem zcal_X7_excuse : zCal M_X7_excuse 0 := ⟨zw472, by decide, by decide, by decide, by decide +kernel⟩
theorem zcal_X7_rank : zCal M_X7_rank 0 := ⟨zw495, by decide, by decide, by decide, by decide +kernel⟩
theorem zcal_X7_refundFor : zCal M_X7_refundFor 1 := ⟨zw574, by decide, by decide, by decide, by decide +kernel⟩
theorem zcal_X7_price : zCal M_X7_price 0 := ⟨zw997, by decide, by decide, by decide, by decide +kernel⟩
theorem zcal_X7_fail : zCal M_X7_fail 0 := ⟨zw1110, by decide, by decide, by decide, by decide +kernel⟩
theorem zcal_X8_init : zCal M_X8_init 2 := ⟨zw327, by decide, by decide, by decide, by decide +kernel⟩
theorem zcal_X8_comesAt : zCal M_X8_comesAt 1 := ⟨zw420, by decide, by decide, by decide, by decide +kernel⟩
theorem zcal_X8_excuse : zCal M_X8_excuse 0 := ⟨zw451, by decide, by decide, by decide, by decide +kernel⟩
theorem zcal_X8_refundFor : zCal M_X8_refundFor 1 := ⟨zw562, by decide, by decide, by decide, by decide +kernel⟩
theorem zcal_X8_price : zCal M_X8_price 0 := ⟨zw976, by decide, by decide, by decide, by decide +kernel⟩
theorem zcal_X8_fail : zCal M_X8_fail 0 := ⟨zw1088, by decide, by decide, by decide, by decide +kernel⟩
theorem zcal_X9_init : zCal M_X9_init 0 := ⟨zw122, by decide, by decide, by decide, by decide +kernel⟩
theorem zcal_X9_place : zCal M_X9_place 3 := ⟨zw655, by decide, by decide, by decide, by decide +kernel⟩
theorem zcal_X9_arrives : zCal M_X9_arrives 1 := ⟨zw679, by decide, by decide, by decide, by decide +kernel⟩
theorem zcal_X9_arrivalOf : zCal M_X9_arrivalOf 1 := ⟨zw758, by decide, by decide, by decide, by decide +kernel⟩
theorem zcal_X9_missedBy : zCal M_X9_missedBy 1 := ⟨zw698, by decide, by decide, by decide, by decide +kernel⟩
theorem zcal_X9_arriving : zCal M_X9_arriving 0 := ⟨zw721, by decide, by decide, by decide, by decide +kernel⟩
theorem zcal_X9_latest : zCal M_X9_latest 0 := ⟨zw737, by decide, by decide, by decide, by decide +kernel⟩
theorem zcal_X9_allArrivals : zCal M_X9_allArrivals 0 := ⟨zw825, by decide, by decide, by decide, by decide +kernel⟩
theorem zcal_X9_go : zCal M_X9_go 2 := ⟨zw632, by decide, by decide, by decide, by decide +kernel⟩
theorem zcal_X9_setPeople : zCal M_X9_setPeople 1 := ⟨zw636, by decide, by decide, by decide, by decide +kernel⟩
theorem zcal_X9_line : zCal M_X9_line 1 := ⟨zw645, by decide, by decide, by decide, by decide +kernel⟩
theorem zcal_X9_setTrains : zCal M_X9_setTrains 2 := ⟨zw649, by decide, by decide, by decide, by decide +kernel⟩
theorem zcal_X9_orderTrains : zCal M_X9_orderTrains 1 := ⟨zw659, by decide, by decide, by decide, by decide +kernel⟩
theorem zcal_X9_isAhead : zCal M_X9_isAhead 3 := ⟨zw663, by decide, by decide, by decide, by decide +kernel⟩
theorem zcal_X9_atStop : zCal M_X9_atStop 3 := ⟨zw667, by decide, by decide, by decide, by decide +kernel⟩
theorem zcal_X9_letOff : zCal M_X9_letOff 2 := ⟨zw671, by decide, by decide, by decide, by decide +kernel⟩
theorem zcal_X9_letOn : zCal M_X9_letOn 3 := ⟨zw675, by decide, by decide, by decide, by decide +kernel⟩
theorem zcal_X9_isLetOn : zCal M_X9_isLetOn 4 := ⟨zw683, by decide, by decide, by decide, by decide +kernel⟩
theorem zcal_X9_may : zCal M_X9_may 3 := ⟨zw687, by decide, by decide, by decide, by decide +kernel⟩
theorem zcal_X10_init : zCal M_X10_init 2 := ⟨zw42, by decide, by decide, by decide, by decide +kernel⟩
theorem zcal_X10_isKind : zCal M_X10_isKind 1 := ⟨zw301, by decide, by decide, by decide, by decide +kernel⟩
theorem zcal_X10_isFigure : zCal M_X10_isFigure 1 := ⟨zw304, by decide, by decide, by decide, by decide +kernel⟩
theorem zcal_X10_ofKind : zCal M_X10_ofKind 2 := ⟨zw313, by decide, by decide, by decide, by decide +kernel⟩
theorem zcal_X10_comesAt : zCal M_X10_comesAt 1 := ⟨zw441, by decide, by decide, by decide, by decide +kernel⟩
theorem zcal_X10_excuse : zCal M_X10_excuse 0 := ⟨zw475, by decide, by decide, by decide, by decide +kernel⟩
theorem zcal_X10_rank : zCal M_X10_rank 0 := ⟨zw498, by decide, by decide, by decide, by decide +kernel⟩
theorem zcal_X10_places : zCal M_X10_places 0 := ⟨zw512, by decide, by decide, by decide, by decide +kernel⟩
theorem zcal_X10_offAt : zCal M_X10_offAt 1 := ⟨zw530, by decide, by decide, by decide, by decide +kernel⟩
theorem zcal_X10_boards : zCal M_X10_boards 1 := ⟨zw551, by decide, by decide, by decide, by decide +kernel⟩
theorem zcal_X10_refundFor : zCal M_X10_refundFor 1 := ⟨zw576, by decide, by decide, by decide, by decide +kernel⟩
theorem zcal_X10_price : zCal M_X10_price 0 := ⟨zw1000, by decide, by decide, by decide, by decide +kernel⟩
theorem zcal_X10_fail : zCal M_X10_fail 0 := ⟨zw1112, by decide, by decide, by decide, by decide +kernel⟩
theorem zcal_X11_init : zCal M_X11_init 0 := ⟨zw27, by decide, by decide, by decide, by decide +kernel⟩
theorem zcal_X11_day : zCal M_X11_day 1 := ⟨zw224, by decide, by decide, by decide, by decide +kernel⟩
theorem zcal_X11_traveller : zCal M_X11_traveller 2 := ⟨zw409, by decide, by decide, by decide, by decide +kernel⟩
theorem zcal_X11_takes : zCal M_X11_takes 2 := ⟨zw534, by decide, by decide, by decide, by decide +kernel⟩
theorem zcal_X11_refund : zCal M_X11_refund 2 := ⟨zw555, by decide, by decide, by decide, by decide +kernel⟩
theorem zcal_X11_comes : zCal M_X11_comes 4 := ⟨zw580, by decide, by decide, by decide, by decide +kernel⟩
theorem zcal_X11_leaves : zCal M_X11_leaves 1 := ⟨zw587, by decide, by decide, by decide, by decide +kernel⟩
theorem zcal_X11_base : zCal M_X11_base 2 := ⟨zw596, by decide, by decide, by decide, by decide +kernel⟩
theorem zcal_X11_train : zCal M_X11_train 2 := ⟨zw600, by decide, by decide, by decide, by decide +kernel⟩
theorem zcal_X11_about : zCal M_X11_about 2 := ⟨zw607, by decide, by decide, by decide, by decide +kernel⟩
theorem zcal_X11_cancels : zCal M_X11_cancels 1 := ⟨zw612, by decide, by decide, by decide, by decide +kernel⟩
theorem zcal_X11_run : zCal M_X11_run 2 := ⟨zw617, by decide, by decide, by decide, by decide +kernel⟩
theorem zcal_X11_set : zCal M_X11_set 2 := ⟨zw623, by decide, by decide, by decide, by decide +kernel⟩
theorem zcal_X11_fate : zCal M_X11_fate 2 := ⟨zw628, by decide, by decide, by decide, by decide +kernel⟩
theorem zcal_X11_when : zCal M_X11_when 3 := ⟨zw712, by decide, by decide, by decide, by decide +kernel⟩
theorem zcal_X11_sums : zCal M_X11_sums 1 := ⟨zw717, by decide, by decide, by decide, by decide +kernel⟩
theorem zcal_X11_aboard : zCal M_X11_aboard 3 := ⟨zw741, by decide, by decide, by decide, by decide +kernel⟩
theorem zcal_X11_fullest : zCal M_X11_fullest 2 := ⟨zw745, by decide, by decide, by decide, by decide +kernel⟩
theorem zcal_X11_later : zCal M_X11_later 2 := ⟨zw750, by decide, by decide, by decide, by decide +kernel⟩
theorem zcal_X11_slack : zCal M_X11_slack 1 := ⟨zw762, by decide, by decide, by decide, by decide +kernel⟩
theorem zcal_X11_odds : zCal M_X11_odds 1 := ⟨zw766, by decide, by decide, by decide, by decide +kernel⟩
theorem zcal_X11_mean : zCal M_X11_mean 2 := ⟨zw770, by decide, by decide, by decide, by decide +kernel⟩
theorem zcal_X11_two : zCal M_X11_two 2 := ⟨zw778, by decide, by decide, by decide, by decide +kernel⟩
theorem zcal_X11_whose : zCal M_X11_whose 1 := ⟨zw786, by decide, by decide, by decide, by decide +kernel⟩
theorem zcal_X11_together : zCal M_X11_together 2 := ⟨zw790, by decide, by decide, by decide, by decide +kernel⟩
theorem zcal_X11_cancel : zCal M_X11_cancel 1 := ⟨zw796, by decide, by decide, by decide, by decide +kernel⟩
theorem zcal_X11_strike : zCal M_X11_strike 0 := ⟨zw801, by decide, by decide, by decide, by decide +kernel⟩
theorem zcal_X11_snow : zCal M_X11_snow 1 := ⟨zw805, by decide, by decide, by decide, by decide +kernel⟩
theorem zcal_X11_law : zCal M_X11_law 1 := ⟨zw809, by decide, by decide, by decide, by decide +kernel⟩
theorem zcal_X11_bestLate : zCal M_X11_bestLate 0 := ⟨zw817, by decide, by decide, by decide, by decide +kernel⟩
theorem zcal_X11_worth : zCal M_X11_worth 0 := ⟨zw821, by decide, by decide, by decide, by decide +kernel⟩
theorem zcal_X11_bestGap : zCal M_X11_bestGap 0 := ⟨zw830, by decide, by decide, by decide, by decide +kernel⟩
theorem zcal_X11_bestStart : zCal M_X11_bestStart 1 := ⟨zw835, by decide, by decide, by decide, by decide +kernel⟩
theorem zcal_X11_need : zCal M_X11_need 1 := ⟨zw843, by decide, by decide, by decide, by decide +kernel⟩
theorem zcal_X11_extra : zCal M_X11_extra 0 := ⟨zw847, by decide, by decide, by decide, by decide +kernel⟩
theorem zcal_X11_tickets : zCal M_X11_tickets 2 := ⟨zw851, by decide, by decide, by decide, by decide +kernel⟩
theorem zcal_X11_forged : zCal M_X11_forged 1 := ⟨zw868, by decide, by decide, by decide, by decide +kernel⟩
theorem zcal_X11_came : zCal M_X11_came 3 := ⟨zw872, by decide, by decide, by decide, by decide +kernel⟩
theorem zcal_X11_sure : zCal M_X11_sure 2 := ⟨zw876, by decide, by decide, by decide, by decide +kernel⟩
theorem zcal_X11_judge : zCal M_X11_judge 2 := ⟨zw880, by decide, by decide, by decide, by decide +kernel⟩
theorem zcal_X11_mornings : zCal M_X11_mornings 3 := ⟨zw888, by decide, by decide, by decide, by decide +kernel⟩
theorem zcal_X11_image : zCal M_X11_image 0 := ⟨zw895, by decide, by decide, by decide, by decide +kernel⟩
theorem zcal_X11_restore : zCal M_X11_restore 0 := ⟨zw899, by decide, by decide, by decide, by decide +kernel⟩
theorem zcal_X11_count : zCal M_X11_count 1 := ⟨zw903, by decide, by decide, by decide, by decide +kernel⟩
theorem zcal_X11_keep : zCal M_X11_keep 4 := ⟨zw915, by decide, by decide, by decide, by decide +kernel⟩
theorem zcal_X11_row : zCal M_X11_row 3 := ⟨zw922, by decide, by decide, by decide, by decide +kernel⟩
theorem zcal_X11_put : zCal M_X11_put 3 := ⟨zw940, by decide, by decide, by decide, by decide +kernel⟩
theorem zcal_X11_element : zCal M_X11_element 2 := ⟨zw1137, by decide, by decide, by decide, by decide +kernel⟩
theorem zcal_X11_copy : zCal M_X11_copy 5 := ⟨zw953, by decide, by decide, by decide, by decide +kernel⟩
theorem zcal_X11_cost : zCal M_X11_cost 1 := ⟨zw962, by decide, by decide, by decide, by decide +kernel⟩
theorem zcal_X11_toss : zCal M_X11_toss 1 := ⟨zw1004, by decide, by decide, by decide, by decide +kernel⟩
theorem zcal_X11_isShelf : zCal M_X11_isShelf 1 := ⟨zw231, by decide, by decide, by decide, by decide +kernel⟩
theorem zcal_X11_isEmpty : zCal M_X11_isEmpty 1 := ⟨zw235, by decide, by decide, by decide, by decide +kernel⟩
theorem zcal_X11_refusalOfRow : zCal M_X11_refusalOfRow 1 := ⟨zw228, by decide, by decide, by decide, by decide +kernel⟩
theorem zcal_X11_refusalOfTickets : zCal M_X11_refusalOfTickets 1 := ⟨zw855, by decide, by decide, by decide, by decide +kernel⟩
theorem zcal_X11_refusalOfOne : zCal M_X11_refusalOfOne 1 := ⟨zw966, by decide, by decide, by decide, by decide +kernel⟩
theorem zcal_X11_digitsBehind : zCal M_X11_digitsBehind 1 := ⟨zw249, by decide, by decide, by decide, by decide +kernel⟩
theorem zcal_X11_firstBadByte : zCal M_X11_firstBadByte 1 := ⟨zw238, by decide, by decide, by decide, by decide +kernel⟩
theorem zcal_X11_isDepth : zCal M_X11_isDepth 1 := ⟨zw537, by decide, by decide, by decide, by decide +kernel⟩
theorem zcal_X11_rideOf : zCal M_X11_rideOf 2 := ⟨zw708, by decide, by decide, by decide, by decide +kernel⟩
theorem zcal_X11_allMissed : zCal M_X11_allMissed 0 := ⟨zw725, by decide, by decide, by decide, by decide +kernel⟩
theorem zcal_X11_allWaited : zCal M_X11_allWaited 0 := ⟨zw729, by decide, by decide, by decide, by decide +kernel⟩
theorem zcal_X11_allRefunds : zCal M_X11_allRefunds 0 := ⟨zw733, by decide, by decide, by decide, by decide +kernel⟩
theorem zcal_X11_whereabouts : zCal M_X11_whereabouts 2 := ⟨zw884, by decide, by decide, by decide, by decide +kernel⟩
theorem zcal_X11_arrivalFrom : zCal M_X11_arrivalFrom 2 := ⟨zw754, by decide, by decide, by decide, by decide +kernel⟩
theorem zcal_X11_arrivingWithLate : zCal M_X11_arrivingWithLate 1 := ⟨zw813, by decide, by decide, by decide, by decide +kernel⟩
theorem zcal_X11_startOfLeastWorth : zCal M_X11_startOfLeastWorth 4 := ⟨zw839, by decide, by decide, by decide, by decide +kernel⟩
theorem zcal_X11_neitherGains : zCal M_X11_neitherGains 2 := ⟨zw782, by decide, by decide, by decide, by decide +kernel⟩
theorem zcal_X11_firstMisfit : zCal M_X11_firstMisfit 2 := ⟨zw859, by decide, by decide, by decide, by decide +kernel⟩
theorem zcal_X11_inLeastTerms : zCal M_X11_inLeastTerms 3 := ⟨zw774, by decide, by decide, by decide, by decide +kernel⟩
theorem zcal_X12_init : zCal M_X12_init 0 := ⟨zw1147, by decide, by decide, by decide, by decide +kernel⟩
theorem zcal_X12_isIn : zCal M_X12_isIn 3 := ⟨zw1274, by decide, by decide, by decide, by decide +kernel⟩
theorem zcal_X12_least : zCal M_X12_least 2 := ⟨zw1354, by decide, by decide, by decide, by decide +kernel⟩
theorem zcal_X12_most : zCal M_X12_most 2 := ⟨zw1332, by decide, by decide, by decide, by decide +kernel⟩
theorem zcal_X12_lays : zCal M_X12_lays 2 := ⟨zw1289, by decide, by decide, by decide, by decide +kernel⟩
theorem zcal_X12_has : zCal M_X12_has 2 := ⟨zw1400, by decide, by decide, by decide, by decide +kernel⟩
theorem zcal_X12_isTraveller : zCal M_X12_isTraveller 1 := ⟨zw1313, by decide, by decide, by decide, by decide +kernel⟩
theorem zcal_X12_isTrain : zCal M_X12_isTrain 1 := ⟨zw1305, by decide, by decide, by decide, by decide +kernel⟩
theorem zcal_X12_kind : zCal M_X12_kind 1 := ⟨zw1329, by decide, by decide, by decide, by decide +kernel⟩
theorem zcal_X12_figure : zCal M_X12_figure 1 := ⟨zw1325, by decide, by decide, by decide, by decide +kernel⟩
theorem zcal_X12_from : zCal M_X12_from 1 := ⟨zw1444, by decide, by decide, by decide, by decide +kernel⟩
theorem zcal_X12_to : zCal M_X12_to 1 := ⟨zw1351, by decide, by decide, by decide, by decide +kernel⟩
theorem zcal_X12_baseOf : zCal M_X12_baseOf 1 := ⟨zw1321, by decide, by decide, by decide, by decide +kernel⟩
theorem zcal_X12_comesAt : zCal M_X12_comesAt 1 := ⟨zw1317, by decide, by decide, by decide, by decide +kernel⟩
theorem zcal_X12_excuseBy : zCal M_X12_excuseBy 2 := ⟨zw1335, by decide, by decide, by decide, by decide +kernel⟩
theorem zcal_X12_rankOf : zCal M_X12_rankOf 1 := ⟨zw1339, by decide, by decide, by decide, by decide +kernel⟩
theorem zcal_X12_placesOf : zCal M_X12_placesOf 1 := ⟨zw1343, by decide, by decide, by decide, by decide +kernel⟩
theorem zcal_X12_offOf : zCal M_X12_offOf 1 := ⟨zw1347, by decide, by decide, by decide, by decide +kernel⟩
theorem zcal_X12_wouldTake : zCal M_X12_wouldTake 2 := ⟨zw1365, by decide, by decide, by decide, by decide +kernel⟩
theorem zcal_X12_refundOf : zCal M_X12_refundOf 2 := ⟨zw1373, by decide, by decide, by decide, by decide +kernel⟩
theorem zcal_X12_begins : zCal M_X12_begins 0 := ⟨zw1424, by decide, by decide, by decide, by decide +kernel⟩
theorem zcal_X12_nextTrain : zCal M_X12_nextTrain 0 := ⟨zw1428, by decide, by decide, by decide, by decide +kernel⟩
theorem zcal_X12_getsOff : zCal M_X12_getsOff 1 := ⟨zw1436, by decide, by decide, by decide, by decide +kernel⟩
theorem zcal_X12_isAskedAhead : zCal M_X12_isAskedAhead 2 := ⟨zw1448, by decide, by decide, by decide, by decide +kernel⟩
theorem zcal_X12_asks : zCal M_X12_asks 1 := ⟨zw1440, by decide, by decide, by decide, by decide +kernel⟩
theorem zcal_X12_tries : zCal M_X12_tries 2 := ⟨zw1452, by decide, by decide, by decide, by decide +kernel⟩
theorem zcal_X12_stops : zCal M_X12_stops 1 := ⟨zw1432, by decide, by decide, by decide, by decide +kernel⟩
theorem zcal_X12_goes : zCal M_X12_goes 0 := ⟨zw1420, by decide, by decide, by decide, by decide +kernel⟩
theorem zcal_X12_arrives : zCal M_X12_arrives 1 := ⟨zw1488, by decide, by decide, by decide, by decide +kernel⟩
theorem zcal_X12_arriveMany : zCal M_X12_arriveMany 0 := ⟨zw1537, by decide, by decide, by decide, by decide +kernel⟩
theorem zcal_X12_allMinutes : zCal M_X12_allMinutes 0 := ⟨zw1565, by decide, by decide, by decide, by decide +kernel⟩
theorem zcal_X12_here : zCal M_X12_here 0 := ⟨zw1282, by decide, by decide, by decide, by decide +kernel⟩
theorem zcal_X12_readsNumber : zCal M_X12_readsNumber 2 := ⟨zw1286, by decide, by decide, by decide, by decide +kernel⟩
theorem zcal_X12_readsStatement : zCal M_X12_readsStatement 0 := ⟨zw1278, by decide, by decide, by decide, by decide +kernel⟩
theorem zcal_X12_areStops : zCal M_X12_areStops 2 := ⟨zw1301, by decide, by decide, by decide, by decide +kernel⟩
theorem zcal_X12_addsTrain : zCal M_X12_addsTrain 2 := ⟨zw1297, by decide, by decide, by decide, by decide +kernel⟩
theorem zcal_X12_isDone : zCal M_X12_isDone 1 := ⟨zw1293, by decide, by decide, by decide, by decide +kernel⟩
theorem zcal_X12_day : zCal M_X12_day 1 := ⟨zw1264, by decide, by decide, by decide, by decide +kernel⟩
theorem zcal_X12_traveller : zCal M_X12_traveller 2 := ⟨zw1309, by decide, by decide, by decide, by decide +kernel⟩
theorem zcal_X12_isDepth : zCal M_X12_isDepth 1 := ⟨zw1361, by decide, by decide, by decide, by decide +kernel⟩
theorem zcal_X12_takes : zCal M_X12_takes 2 := ⟨zw1358, by decide, by decide, by decide, by decide +kernel⟩
theorem zcal_X12_refund : zCal M_X12_refund 2 := ⟨zw1369, by decide, by decide, by decide, by decide +kernel⟩
theorem zcal_X12_comes : zCal M_X12_comes 4 := ⟨zw1377, by decide, by decide, by decide, by decide +kernel⟩
theorem zcal_X12_leaves : zCal M_X12_leaves 1 := ⟨zw1385, by decide, by decide, by decide, by decide +kernel⟩
theorem zcal_X12_base : zCal M_X12_base 2 := ⟨zw1389, by decide, by decide, by decide, by decide +kernel⟩
theorem zcal_X12_train : zCal M_X12_train 2 := ⟨zw1393, by decide, by decide, by decide, by decide +kernel⟩
theorem zcal_X12_about : zCal M_X12_about 2 := ⟨zw1397, by decide, by decide, by decide, by decide +kernel⟩
theorem zcal_X12_cancels : zCal M_X12_cancels 1 := ⟨zw1404, by decide, by decide, by decide, by decide +kernel⟩
theorem zcal_X12_run : zCal M_X12_run 2 := ⟨zw1408, by decide, by decide, by decide, by decide +kernel⟩
theorem zcal_X12_set : zCal M_X12_set 2 := ⟨zw1412, by decide, by decide, by decide, by decide +kernel⟩
theorem zcal_X12_fate : zCal M_X12_fate 2 := ⟨zw1416, by decide, by decide, by decide, by decide +kernel⟩
theorem zcal_X12_when : zCal M_X12_when 3 := ⟨zw1456, by decide, by decide, by decide, by decide +kernel⟩
theorem zcal_X12_sumOf : zCal M_X12_sumOf 2 := ⟨zw1468, by decide, by decide, by decide, by decide +kernel⟩
theorem zcal_X12_latest : zCal M_X12_latest 0 := ⟨zw1464, by decide, by decide, by decide, by decide +kernel⟩
theorem zcal_X12_sums : zCal M_X12_sums 1 := ⟨zw1460, by decide, by decide, by decide, by decide +kernel⟩
theorem zcal_X12_aboard : zCal M_X12_aboard 3 := ⟨zw1472, by decide, by decide, by decide, by decide +kernel⟩
theorem zcal_X12_fullest : zCal M_X12_fullest 2 := ⟨zw1476, by decide, by decide, by decide, by decide +kernel⟩
theorem zcal_X12_arrivesWith : zCal M_X12_arrivesWith 2 := ⟨zw1484, by decide, by decide, by decide, by decide +kernel⟩
theorem zcal_X12_later : zCal M_X12_later 2 := ⟨zw1480, by decide, by decide, by decide, by decide +kernel⟩
theorem zcal_X12_slack : zCal M_X12_slack 1 := ⟨zw1492, by decide, by decide, by decide, by decide +kernel⟩
theorem zcal_X12_tens : zCal M_X12_tens 1 := ⟨zw1500, by decide, by decide, by decide, by decide +kernel⟩
theorem zcal_X12_odds : zCal M_X12_odds 1 := ⟨zw1496, by decide, by decide, by decide, by decide +kernel⟩
theorem zcal_X12_gcd : zCal M_X12_gcd 2 := ⟨zw1508, by decide, by decide, by decide, by decide +kernel⟩
theorem zcal_X12_mean : zCal M_X12_mean 2 := ⟨zw1504, by decide, by decide, by decide, by decide +kernel⟩
theorem zcal_X12_choices : zCal M_X12_choices 2 := ⟨zw1516, by decide, by decide, by decide, by decide +kernel⟩
theorem zcal_X12_two : zCal M_X12_two 2 := ⟨zw1512, by decide, by decide, by decide, by decide +kernel⟩
theorem zcal_X12_whose : zCal M_X12_whose 1 := ⟨zw1520, by decide, by decide, by decide, by decide +kernel⟩
theorem zcal_X12_together : zCal M_X12_together 2 := ⟨zw1524, by decide, by decide, by decide, by decide +kernel⟩
theorem zcal_X12_manyNow : zCal M_X12_manyNow 0 := ⟨zw1533, by decide, by decide, by decide, by decide +kernel⟩
theorem zcal_X12_cancel : zCal M_X12_cancel 1 := ⟨zw1528, by decide, by decide, by decide, by decide +kernel⟩
theorem zcal_X12_strike : zCal M_X12_strike 0 := ⟨zw1541, by decide, by decide, by decide, by decide +kernel⟩
theorem zcal_X12_snow : zCal M_X12_snow 1 := ⟨zw1545, by decide, by decide, by decide, by decide +kernel⟩
theorem zcal_X12_goesWith : zCal M_X12_goesWith 2 := ⟨zw1553, by decide, by decide, by decide, by decide +kernel⟩
theorem zcal_X12_law : zCal M_X12_law 1 := ⟨zw1549, by decide, by decide, by decide, by decide +kernel⟩
theorem zcal_X12_bestLate : zCal M_X12_bestLate 0 := ⟨zw1557, by decide, by decide, by decide, by decide +kernel⟩
theorem zcal_X12_worth : zCal M_X12_worth 0 := ⟨zw1561, by decide, by decide, by decide, by decide +kernel⟩
theorem zcal_X12_bestIn : zCal M_X12_bestIn 4 := ⟨zw1573, by decide, by decide, by decide, by decide +kernel⟩
theorem zcal_X12_bestGap : zCal M_X12_bestGap 0 := ⟨zw1569, by decide, by decide, by decide, by decide +kernel⟩
theorem zcal_X12_bestStart : zCal M_X12_bestStart 1 := ⟨zw1578, by decide, by decide, by decide, by decide +kernel⟩
theorem zcal_X12_need : zCal M_X12_need 1 := ⟨zw1582, by decide, by decide, by decide, by decide +kernel⟩
theorem zcal_X12_extra : zCal M_X12_extra 0 := ⟨zw1586, by decide, by decide, by decide, by decide +kernel⟩
theorem zcal_X12_leastOf : zCal M_X12_leastOf 1 := ⟨zw1602, by decide, by decide, by decide, by decide +kernel⟩
theorem zcal_X12_ticketOf : zCal M_X12_ticketOf 1 := ⟨zw1607, by decide, by decide, by decide, by decide +kernel⟩
theorem zcal_X12_wrongTicket : zCal M_X12_wrongTicket 1 := ⟨zw1598, by decide, by decide, by decide, by decide +kernel⟩
theorem zcal_X12_wrongTickets : zCal M_X12_wrongTickets 1 := ⟨zw1594, by decide, by decide, by decide, by decide +kernel⟩
theorem zcal_X12_tickets : zCal M_X12_tickets 2 := ⟨zw1590, by decide, by decide, by decide, by decide +kernel⟩
theorem zcal_X12_forged : zCal M_X12_forged 1 := ⟨zw1611, by decide, by decide, by decide, by decide +kernel⟩
theorem zcal_X12_came : zCal M_X12_came 3 := ⟨zw1615, by decide, by decide, by decide, by decide +kernel⟩
theorem zcal_X12_sure : zCal M_X12_sure 2 := ⟨zw1619, by decide, by decide, by decide, by decide +kernel⟩
theorem zcal_X12_placeAt : zCal M_X12_placeAt 2 := ⟨zw1627, by decide, by decide, by decide, by decide +kernel⟩
theorem zcal_X12_judge : zCal M_X12_judge 2 := ⟨zw1623, by decide, by decide, by decide, by decide +kernel⟩
theorem zcal_X12_drawn : zCal M_X12_drawn 1 := ⟨zw1635, by decide, by decide, by decide, by decide +kernel⟩
theorem zcal_X12_mornings : zCal M_X12_mornings 3 := ⟨zw1631, by decide, by decide, by decide, by decide +kernel⟩
theorem zcal_X12_image : zCal M_X12_image 0 := ⟨zw1642, by decide, by decide, by decide, by decide +kernel⟩
theorem zcal_X12_restore : zCal M_X12_restore 0 := ⟨zw1646, by decide, by decide, by decide, by decide +kernel⟩
theorem zcal_X12_count : zCal M_X12_count 1 := ⟨zw1650, by decide, by decide, by decide, by decide +kernel⟩
theorem zcal_X12_thrown : zCal M_X12_thrown 0 := ⟨zw1654, by decide, by decide, by decide, by decide +kernel⟩
theorem zcal_X12_isShelf : zCal M_X12_isShelf 1 := ⟨zw1271, by decide, by decide, by decide, by decide +kernel⟩
theorem zcal_X12_wrongRow : zCal M_X12_wrongRow 2 := ⟨zw1268, by decide, by decide, by decide, by decide +kernel⟩
theorem zcal_X12_wrongKept : zCal M_X12_wrongKept 1 := ⟨zw1381, by decide, by decide, by decide, by decide +kernel⟩
theorem zcal_X12_keep : zCal M_X12_keep 4 := ⟨zw1658, by decide, by decide, by decide, by decide +kernel⟩
theorem zcal_X12_row : zCal M_X12_row 3 := ⟨zw1662, by decide, by decide, by decide, by decide +kernel⟩
theorem zcal_X12_put : zCal M_X12_put 3 := ⟨zw1666, by decide, by decide, by decide, by decide +kernel⟩
theorem zcal_X12_element : zCal M_X12_element 2 := ⟨zw1670, by decide, by decide, by decide, by decide +kernel⟩
theorem zcal_X12_copy : zCal M_X12_copy 5 := ⟨zw1674, by decide, by decide, by decide, by decide +kernel⟩
theorem zcal_X12_costBy : zCal M_X12_costBy 2 := ⟨zw1681, by decide, by decide, by decide, by decide +kernel⟩
theorem zcal_X12_cost : zCal M_X12_cost 1 := ⟨zw1678, by decide, by decide, by decide, by decide +kernel⟩
theorem zcal_X12_toss : zCal M_X12_toss 1 := ⟨zw1685, by decide, by decide, by decide, by decide +kernel⟩
theorem zcal_J6_bitCount_0f7a4 : zCal M_J6_bitCount_0f7a4 1 := ⟨zw701, by decide, by decide, by decide, by decide +kernel⟩
theorem zcast19 : ∀ ci ∈ ([0, 1, 2, 5, 6, 7, 8, 10] : List Nat), ∃ C T N ty, zKC ci C T N ty ∧ (C = "SlowerForTheLate$Walker" ∨ C ∈ zSubs) := (zfc ⟨_, _, _, _, zkc0, Or.inr (by decide)⟩ (zfc ⟨_, _, _, _, zkc1, Or.inr (by decide)⟩ (zfc ⟨_, _, _, _, zkc2, Or.inr (by decide)⟩ (zfc ⟨_, _, _, _, zkc5, Or.inr (by decide)⟩ (zfc ⟨_, _, _, _, zkc6, Or.inr (by decide)⟩ (zfc ⟨_, _, _, _, zkc7, Or.inr (by decide)⟩ (zfc ⟨_, _, _, _, zkc8, Or.inr (by decide)⟩ (zfc ⟨_, _, _, _, zkc10, Or.inl rfl⟩ zfn))))))))
theorem zcast18 : ∀ ci ∈ ([4] : List Nat), ∃ C T N ty, zKC ci C T N ty ∧ (C = "SlowerForTheLate$Row" ∨ False) := (zfc ⟨_, _, _, _, zkc4, Or.inl rfl⟩ zfn)
