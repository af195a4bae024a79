/-! from the law's entry -/
theorem law_go {E : zE} {b : zS} {L : Nat} {tb : List ExceptionTableEntry} {R : Room} {Z : zEd} (ok : zOKr M_L_law tb R 11 P_L_law) (hL : Nat.ble L 3072 = true)
    (hend : ∀ (ls : List (Option Value)) (σ : zS) (bc bs : Nat), zGy E M_L_law tb R Z 1939 (ls, [], σ, bc, bs))
    (k0 : zk b 0 = (21, L)) (k1 : zk b 1 = (21, 4)) (k2 : zk b 2 = (21, 4)) (x1 : (zi b 1 0).toInt = 0 ∧ (zi b 1 1).toInt = 1 ∧ (zi b 1 2).toInt = 0 ∧ (zi b 1 3).toInt = 0) (x2 : (zi b 2 0).toInt = 30 ∧ (zi b 2 1).toInt = 30 ∧ (zi b 2 2).toInt = 9 ∧ (zi b 2 3).toInt = 9) :
    zGy E M_L_law tb R Z 0 ([some (.ref 0), none, none, none, none, none, none, none], [], zOv b zq0, 601024, 7293034) := by
  refine cy_new (n := 3) (bc' := 601023) (bs' := 7293025) ok rfl rfl rfl rfl rfl ?_
  refine ty_dupA ok rfl ?_
  refine ty_callO (e9 := 10) ok rfl rfl rfl rfl (cc_X11_init (d := 7) (b := b)) (Nat.le_of_ble_eq_true rfl) (Nat.le_of_ble_eq_true rfl) (fun σ9 e9 => ?_)
  subst e9
  show zGy _ _ _ _ _ 7 (_, _, _, 600968, 7292521)
  refine ty_stA1 ok rfl rfl ?_
  refine cy_new (n := 59) (bc' := 600967) (bs' := 7292484) ok rfl rfl rfl rfl rfl ?_
  refine ty_dupA ok rfl ?_
  refine ty_callO (e9 := 10) ok rfl rfl rfl rfl (cc_X12_init (d := 9) (b := b)) (Nat.le_of_ble_eq_true rfl) (Nat.le_of_ble_eq_true rfl) (fun σ9 e9 => ?_)
  subst e9
  show zGy _ _ _ _ _ 15 (_, _, _, 600941, 7291212)
  refine ty_stA2 ok rfl rfl ?_
  refine ty_ci ok rfl ?_
  refine cy_newA (n := 86) (N := 1) (bc' := 600940) (bs' := 7291211) ok rfl rfl rfl rfl rfl rfl rfl ?_
  refine ty_stA3 ok rfl rfl ?_
  refine ty_ci ok rfl ?_
  refine ty_stI4 ok rfl rfl ?_
  refine zGy_rel (σ' := zJ (zTo (zOv b tL2))) (fun H => t0_rel) ?_
  exact law_loop ok hL hend 512 0 (zk (zOv b tL2)) _ _ _ 87 600940 7291211 none none none (LI_0 k0 k1 k2 x1 x2) (by omega) (by omega) (by have := Nat.le_of_ble_eq_true hL; omega) (by omega) (by omega)
theorem zarr_of {s : State} {cA : ClassId} {kA : Class} {comp : ClassId} {ty : FieldType} (h2 : s.vm.classes[cA]? = some kA) (h3 : kA.kind = .array comp ty) : ArrOfT s cA ty := fun n z => ⟨(fun k h => by cases h), kA, h2, comp, h3⟩
theorem zcls {α β : Type} {P : Nat → α → β → Prop} (l : List α) (h : ∀ c q, l[c]? = some q → ∃ b, P c q b) (b0 : β) : ∃ D : Nat → β, ∀ c q, l[c]? = some q → P c q (D c) := by
  have g : ∀ c, ∃ b : β, ∀ q, l[c]? = some q → P c q b := fun c => by
    cases e : l[c]? with
    | none => exact ⟨b0, fun q hq => by cases hq⟩
    | some q =>
      obtain ⟨b, hb⟩ := h c q e
      exact ⟨b, fun q' hq' => by cases hq'; exact hb⟩
  exact ⟨fun c => Classical.choose (g c), fun c q hq => Classical.choose_spec (g c) q hq⟩
/-- a static array of four ints -/
theorem zrules {args : Array Value} {s : State} {tm : Term} {f : Nat → Int32} (harr : (Cond.arrayOf tm .int).before args s = true) (hlen : (Term.length tm).eval args s none [] s = some (.int 4)) (hel : ∀ j : Nat, j < 4 → (Term.elem tm (.int (Int32.ofNat j))).eval args s none [] s = some (.int (f j))) : ∃ t, tm.eval args s none [] s = some (.ref t) ∧ va_X t 4 f s s.heap ∧ t < s.heap.size := by
  obtain ⟨t, ht, cell, h1, h2, h3, h4, h5, h6, -⟩ := va_Tof (A := fun q => s.heap.size ≤ q) (f := fun j => .int (f j)) (N := 4) (by decide) harr hlen hel (fun a h => Nat.not_le.mpr h)
  obtain ⟨a, cell9, ht9, harr9, hv9⟩ := Term.length_spec hlen
  cases ht.symm.trans ht9
  have hsz : cell9.slots.size < 2 ^ 31 := by
    simp only [Term.eval, ht9, harr9, Option.bind_eq_bind, Option.bind_some] at hlen
    by_cases hlt : cell9.slots.size < 2147483648
    · exact hlt
    · simp [hlt] at hlen
  cases h1.symm.trans (State.arrayAt?_spec harr9).1
  refine ⟨t, ht, ⟨cell, h1, h2, h3, ?_, h6⟩, (Array.getElem?_eq_some_iff.mp h1).1⟩
  have e := congrArg Int32.toNatClampNeg h5
  rw [show cell.slots.size.toInt32 = Int32.ofNat cell.slots.size from rfl, Int32.toNatClampNeg_ofNat_of_lt hsz, Int32.toNatClampNeg_ofNat_of_lt (by decide)] at e
  exact e
/-! THE CLAIM OUT OF ONE WALK OF THE LAW'S BODY. Your part is whole_start (and what it stands on); all else here is the same for every law, but numbers. -/
def R_law : String := "SlowerForTheLateLaw"
def lw_P (b : Addr) (xs : List Int32) (args : Array Value) (s : State) : Prop := args = #[.ref b] ∧ s.IntsAt b xs ∧ xs.length ≤ 3072 ∧ (Jvm.Cond.and given_1 narrow_1).before args s = true
def lw_Q (_ : Array Value) (s : State) (o : Outcome) (t : State) : Prop := o = .returned (some (.int 1)) ∧ Framed s o t [] 601024 7293034
def lw_Z (below : List Frame) (a : Array Value) (s : State) : State → Prop := fun t => ∃ o, t.status = .running ∧ Ended t below o ∧ lw_Q a s o t
/-- the law's own end, with 1 on the stack, nothing written that was there before, its room as the claim has it -/
theorem lw_ret {p : Program} {l : Launch} {e : Env} {s : State} {m : MethodId} {below : List Frame} {meth : Method} {c : Code} {b : Nat} (hx : p.tables.exec = Jvm.exec) (hb : c.code = code) (hr : meth.sig.returnType = ret) (hlocks : meth.locks = false) {pc : Nat} {H : Heap} {ls : Array Slot} (hdg : decode code pc = .ok (.ireturn, 1)) : W p l e room_1 s m #[Value.ref b] below meth c H [] 601024 7293034 (lw_Z below #[Value.ref b] s) (F0 m pc ls [.int 1]) := by
  intro T hT X
  obtain ⟨fs, hret, hrun, hended, hW, hframe⟩ := X.leave (v := some (.int 1)) (hlocks := hlocks) (fun h => by rw [hr] at h; cases h)
  have hmeth' : T.vm.method? m = some meth := X.method'
  refine ⟨T.setFrames fs, ?_, .returned (some (.int 1)), hrun, hended, rfl, ⟨_, rfl⟩, hW, hframe⟩
  jvm_step X.here [X.here.top, hx, hb, hdg, hmeth', hr, ret, narrow_b1]
  (try refine ⟨rfl, ?_⟩); (try refine ⟨rfl, ?_⟩)
  first | (intro acts; rw [hret _ acts rfl rfl rfl]) | rw [hret _ _ rfl rfl rfl]
  exact Steps.refl _
/-- what holds at the law's entry: the machine, the code, the tables' words (any of lw_tbl by 'hts w (by decide +kernel)'), the script of L ints xs at the cell b, what the Statement gives of the start (any of its parts by flat_of_before) -/
def lw_At (p : Program) (s : State) (m : MethodId) (meth : Method) (c : Code) (b L : Nat) (xs : Nat → Int32) : Prop :=
  p.tables.exec = Jvm.exec ∧ c.code = code ∧ meth.sig.returnType = ret ∧ c.maxLocals = 8 ∧ s.vm.findClass R_law = some m.cls ∧ (∀ w ∈ lw_tbl, w.before #[Value.ref b] s = true) ∧ va_X b L xs s s.heap ∧ b < s.heap.size ∧ meth.locks = false ∧ (Jvm.Cond.and given_1 narrow_1).before #[Value.ref b] s = true ∧ meth.name = "law"
def zrulL (j : Nat) : Int32 := if j = 1 then 1 else 0
def zrulM (j : Nat) : Int32 := if j = 0 then 30 else if j = 1 then 30 else 9
theorem rulL : (zrulL 0).toInt = 0 ∧ (zrulL 1).toInt = 1 ∧ (zrulL 2).toInt = 0 ∧ (zrulL 3).toInt = 0 := ⟨by decide, by decide, by decide, by decide⟩
theorem rulM : (zrulM 0).toInt = 30 ∧ (zrulM 1).toInt = 30 ∧ (zrulM 2).toInt = 9 ∧ (zrulM 3).toInt = 9 := ⟨by decide, by decide, by decide, by decide⟩
theorem zk1 {s : State} {C : String} {T : u_T} {N : Nat} (h : ∃ (cC : ClassId) (iS : Nat → Nat), u_Kn s C T N cC iS) : ∃ p : ClassId × (Nat → Nat), u_Kn s C T N p.1 p.2 := by
  obtain ⟨a, b, h⟩ := h
  exact ⟨(a, b), h⟩
theorem zW_mono {p : Program} {l : Launch} {e : Env} {R : Room} {s : State} {m : MethodId} {args : Array Value} {below : List Frame} {meth : Method} {c : Code} {H : Heap} {locs : List Loc} {cells slots : Nat} {Q Q2 : State → Prop} {g : JFrame} (h : W p l e R s m args below meth c H locs cells slots Q g) (a : ∀ t, Q t → Q2 t) : W p l e R s m args below meth c H locs cells slots Q2 g := fun T hT X => by
  obtain ⟨t, a1, b1⟩ := h T hT X
  exact ⟨t, a1, a t b1⟩
/-- the law's own end, with 1 on the stack, nothing written that was there before, its room as the claim has it -/
theorem lw_ret9 {p : Program} {l : Launch} {e : Env} {s : State} {m : MethodId} {below : List Frame} {meth : Method} {c : Code} {args : Array Value} (hx : p.tables.exec = Jvm.exec) (hb : c.code = code) (hr : meth.sig.returnType = ret) (hlocks : meth.locks = false) {pc : Nat} {H : Heap} {ls : Array Slot} (hdg : decode code pc = .ok (.ireturn, 1)) : W p l e room_1 s m args below meth c H [] 601024 7293034 (lw_Z below args s) (F0 m pc ls [.int 1]) := by
  intro T hT X
  obtain ⟨fs, hret, hrun, hended, hW, hframe⟩ := X.leave (v := some (.int 1)) (hlocks := hlocks) (fun h => by rw [hr] at h; cases h)
  have hmeth' : T.vm.method? m = some meth := X.method'
  refine ⟨T.setFrames fs, ?_, .returned (some (.int 1)), hrun, hended, rfl, ⟨_, rfl⟩, hW, hframe⟩
  jvm_step X.here [X.here.top, hx, hb, hdg, hmeth', hr, ret, narrow_b1]
  (try refine ⟨rfl, ?_⟩); (try refine ⟨rfl, ?_⟩)
  first | (intro acts; rw [hret _ acts rfl rfl rfl]) | rw [hret _ _ rfl rfl rfl]
  exact Steps.refl _

/-- the law's own end, with 1 on the stack, nothing written that was there before, its room as the claim has it -/
theorem lw_ret8 {p : Program} {l : Launch} {e : Env} {s : State} {m : MethodId} {below : List Frame} {meth : Method} {c : Code} {args : Array Value} {locs : List Loc} {cells slots : Nat} (hx : p.tables.exec = Jvm.exec) (hb : c.code = code) (hr : meth.sig.returnType = ret) (hlocks : meth.locks = false) {pc : Nat} {H : Heap} {ls : Array Slot} (hdg : decode code pc = .ok (.ireturn, 1)) : W p l e room_1 s m args below meth c H locs cells slots (fun t => ∃ o, t.status = .running ∧ Ended t below o) (F0 m pc ls [.int 1]) := by
  intro T hT X
  obtain ⟨fs, hret, hrun, hended, hW, hframe⟩ := X.leave (v := some (.int 1)) (hlocks := hlocks) (fun h => by rw [hr] at h; cases h)
  have hmeth' : T.vm.method? m = some meth := X.method'
  refine ⟨T.setFrames fs, ?_, .returned (some (.int 1)), hrun, hended⟩
  jvm_step X.here [X.here.top, hx, hb, hdg, hmeth', hr, ret, narrow_b1]
  (try refine ⟨rfl, ?_⟩); (try refine ⟨rfl, ?_⟩)
  first | (intro acts; rw [hret _ acts rfl rfl rfl]) | rw [hret _ _ rfl rfl rfl]
  exact Steps.refl _

/-- the law's end, for the second judgement -/
def zZl (E : zE) : zEd := fun below args s t => ∃ o, t.status = .running ∧ Ended t below o ∧ (s.heap.size = eB E → lw_Q args s o t)
theorem law_end {E : zE} {tb : List ExceptionTableEntry} (ok : zOKr M_L_law tb room_1 11 P_L_law) (ls : List (Option Value)) (σ : zS) (bc bs : Nat) : zGy E M_L_law tb room_1 (zZl E) 1939 (ls, [], σ, bc, bs) := by
  refine ty_ci ok rfl ?_
  intro p e s m args below meth cd X H locs A hR hL hF h1 h2
  have hx := X.1
  have hb : cd.code = code := X.2.1
  have hr : meth.sig.returnType = ret := X.2.2.1
  have hlk := X.2.2.2.1
  by_cases hs : s.heap.size = eB E
  · refine W.widen (k := 601024) (n := 7293034) (Nat.sub_le _ _) (Nat.sub_le _ _) ?_
    refine va_forget (fun q hq => by rw [hs]; exact hF q hq) ?_
    exact zW_mono (lw_ret9 hx hb hr hlk (by decide +kernel)) fun t ⟨o, y1, y2, y3⟩ => ⟨o, y1, y2, fun _ => y3⟩
  · exact zW_mono (lw_ret8 hx hb hr hlk (by decide +kernel)) fun t ⟨o, y1, y2⟩ => ⟨o, y1, y2, fun z => absurd z hs⟩
theorem zstr {args : Array Value} {s : State} {own tx : String} {k cur : Nat} (hcur : s.vm.findClass own = some cur) (h : (Cond.stringRef own k tx).before args s = true) : ∃ a, vk_R own k tx a s := by
  obtain ⟨-, -, -, a, -, -, -, -, -, hev⟩ := Cond.stringRef_spec hcur h
  exact ⟨a, vk_R.of h hev⟩
set_option maxHeartbeats 4000000 in
set_option maxRecDepth 100000 in
/-- from the entry, for every script of at most 3072 ints, the law comes to its end with true -/
theorem whole_start {p : Program} {e : Env} {s : State} {m : MethodId} {below : List Frame} {meth : Method} {c : Code} (l : Launch) (hflags : l.flags = flags0) {b L : Nat} {xs : Nat → Int32} (hL : L ≤ 3072) (C0 : lw_At p s m meth c b L xs) : W p l e room_1 s m #[Value.ref b] below meth c s.heap [] 0 0 (lw_Z below #[Value.ref b] s) (entryFrame m ([Value.ref b] : List Value).toArray 8) := by
  obtain ⟨hx, hb, hr, hml, hown, hts, hX, hbl, hlocks, hgv, hname⟩ := C0
  have hg : ∀ w ∈ zTb, w.before #[Value.ref b] s = true := fun w hw => hts w (List.mem_filter.mp hw).1
  have hs := flat_of_before _ hgv
  have nA : ∀ a : Nat, a < s.heap.size → ¬ (fun q => s.heap.size ≤ q) a := fun a h => Nat.not_le.mpr h
  have AL : (Cond.arrayOf (.static "SlowerForTheLate$Plan" "LEAST_RULES" "[I") .int).before #[Value.ref b] s = true := hs _ (by decide +kernel)
  have NL : (Term.length (.static "SlowerForTheLate$Plan" "LEAST_RULES" "[I")).eval #[Value.ref b] s none [] s = some (.int 4) := va_eqt (hs (Cond.eq (.length (.static "SlowerForTheLate$Plan" "LEAST_RULES" "[I")) (.int 4)) (by decide +kernel))
  have VL : ∀ j : Nat, j < 4 → (Term.elem (.static "SlowerForTheLate$Plan" "LEAST_RULES" "[I") (.int (Int32.ofNat j))).eval #[Value.ref b] s none [] s = some (.int (zrulL j)) := fun j hj => by
    rcases (by omega : j = 0 ∨ j = 1 ∨ j = 2 ∨ j = 3) with e | e | e | e
    · subst e; exact va_eqt (hs (Cond.eq (.elem (.static "SlowerForTheLate$Plan" "LEAST_RULES" "[I") (.int 0)) (.int 0)) (by decide +kernel))
    · subst e; exact va_eqt (hs (Cond.eq (.elem (.static "SlowerForTheLate$Plan" "LEAST_RULES" "[I") (.int 1)) (.int 1)) (by decide +kernel))
    · subst e; exact va_eqt (hs (Cond.eq (.elem (.static "SlowerForTheLate$Plan" "LEAST_RULES" "[I") (.int 2)) (.int 0)) (by decide +kernel))
    · subst e; exact va_eqt (hs (Cond.eq (.elem (.static "SlowerForTheLate$Plan" "LEAST_RULES" "[I") (.int 3)) (.int 0)) (by decide +kernel))
  obtain ⟨tL, TL, XL, SL⟩ := zrules AL NL VL
  have AM : (Cond.arrayOf (.static "SlowerForTheLate$Plan" "MOST_RULES" "[I") .int).before #[Value.ref b] s = true := hs _ (by decide +kernel)
  have NM : (Term.length (.static "SlowerForTheLate$Plan" "MOST_RULES" "[I")).eval #[Value.ref b] s none [] s = some (.int 4) := va_eqt (hs (Cond.eq (.length (.static "SlowerForTheLate$Plan" "MOST_RULES" "[I")) (.int 4)) (by decide +kernel))
  have VM : ∀ j : Nat, j < 4 → (Term.elem (.static "SlowerForTheLate$Plan" "MOST_RULES" "[I") (.int (Int32.ofNat j))).eval #[Value.ref b] s none [] s = some (.int (zrulM j)) := fun j hj => by
    rcases (by omega : j = 0 ∨ j = 1 ∨ j = 2 ∨ j = 3) with e | e | e | e
    · subst e; exact va_eqt (hs (Cond.eq (.elem (.static "SlowerForTheLate$Plan" "MOST_RULES" "[I") (.int 0)) (.int 30)) (by decide +kernel))
    · subst e; exact va_eqt (hs (Cond.eq (.elem (.static "SlowerForTheLate$Plan" "MOST_RULES" "[I") (.int 1)) (.int 30)) (by decide +kernel))
    · subst e; exact va_eqt (hs (Cond.eq (.elem (.static "SlowerForTheLate$Plan" "MOST_RULES" "[I") (.int 2)) (.int 9)) (by decide +kernel))
    · subst e; exact va_eqt (hs (Cond.eq (.elem (.static "SlowerForTheLate$Plan" "MOST_RULES" "[I") (.int 3)) (.int 9)) (by decide +kernel))
  obtain ⟨tM, TM, XM, SM⟩ := zrules AM NM VM
  obtain ⟨D, hKc⟩ : ∃ D : Nat → ClassId × (Nat → Nat), ∀ c q, zCl[c]? = some q → u_Kn s q.1 q.2.1 q.2.2 (D c).1 (D c).2 := zcls (P := fun (_ : Nat) (q : vw_C) (p : ClassId × (Nat → Nat)) => u_Kn s q.1 q.2.1 q.2.2 p.1 p.2) zCl (fun c q hq => by
    match c, hq with
    | 0, hq => cases hq; exact zk1 (u_known (C := RX0) (T := TX0) (N := 2) (n := 2) hg zkc0.2.2.1 (hts (.instantiable RX0 2) (by decide +kernel)))
    | 1, hq => cases hq; exact zk1 (u_known (C := RX1) (T := TX1) (N := 2) (n := 2) hg zkc1.2.2.1 (hts (.instantiable RX1 2) (by decide +kernel)))
    | 2, hq => cases hq; exact zk1 (u_known (C := RX2) (T := TX2) (N := 2) (n := 2) hg zkc2.2.2.1 (hts (.instantiable RX2 2) (by decide +kernel)))
    | 3, hq => cases hq; exact zk1 (u_known (C := RX3) (T := TX3) (N := 11) (n := 11) hg zkc3.2.2.1 (hts (.instantiable RX3 11) (by decide +kernel)))
    | 4, hq => cases hq; exact zk1 (u_known (C := RX4) (T := TX4) (N := 2) (n := 2) hg zkc4.2.2.1 (hts (.instantiable RX4 2) (by decide +kernel)))
    | 5, hq => cases hq; exact zk1 (u_known (C := RX5) (T := TX5) (N := 2) (n := 2) hg zkc5.2.2.1 (hts (.instantiable RX5 2) (by decide +kernel)))
    | 6, hq => cases hq; exact zk1 (u_known (C := RX6) (T := TX6) (N := 2) (n := 2) hg zkc6.2.2.1 (hts (.instantiable RX6 2) (by decide +kernel)))
    | 7, hq => cases hq; exact zk1 (u_known (C := RX7) (T := TX7) (N := 2) (n := 2) hg zkc7.2.2.1 (hts (.instantiable RX7 2) (by decide +kernel)))
    | 8, hq => cases hq; exact zk1 (u_known (C := RX8) (T := TX8) (N := 2) (n := 2) hg zkc8.2.2.1 (hts (.instantiable RX8 2) (by decide +kernel)))
    | 9, hq => cases hq; exact zk1 (u_known (C := RX9) (T := TX9) (N := 19) (n := 19) hg zkc9.2.2.1 (hts (.instantiable RX9 19) (by decide +kernel)))
    | 10, hq => cases hq; exact zk1 (u_known (C := RX10) (T := TX10) (N := 2) (n := 2) hg zkc10.2.2.1 (hts (.instantiable RX10 2) (by decide +kernel)))
    | 11, hq => cases hq; exact zk1 (u_known (C := RX11) (T := TX11) (N := 9) (n := 9) hg zkc11.2.2.1 (hts (.instantiable RX11 9) (by decide +kernel)))
    | 12, hq => cases hq; exact zk1 (u_known (C := RX12) (T := TX12) (N := 37) (n := 37) hg zkc12.2.2.1 (hts (.instantiable RX12 37) (by decide +kernel)))
    | 13, hq => cases hq; exact zk1 (u_known (C := "java/lang/IllegalArgumentException") (T := zT0) (N := 0) (n := 6) hg (fun w hw => by cases hw) (hts (.instantiable "java/lang/IllegalArgumentException" 6) (by decide +kernel)))
    | 14, hq => cases hq; exact zk1 (u_known (C := "java/lang/IllegalStateException") (T := zT0) (N := 0) (n := 6) hg (fun w hw => by cases hw) (hts (.instantiable "java/lang/IllegalStateException" 6) (by decide +kernel)))
    | 15, hq => cases hq; exact zk1 (u_known (C := "java/lang/UnsupportedOperationException") (T := zT0) (N := 0) (n := 6) hg (fun w hw => by cases hw) (hts (.instantiable "java/lang/UnsupportedOperationException" 6) (by decide +kernel)))
    | c + 16, hq => simp [zCl] at hq) (0, fun _ => 0)
  obtain ⟨cI, kI, oI, fI, gI, hI⟩ := Cond.arrayClass_spec (hts (.arrayClass .int) (by decide +kernel))
  obtain ⟨cZ, kZ, oZ, fZ, gZ, hZ⟩ := Cond.arrayClass_spec (hts (.arrayClass .boolean) (by decide +kernel))
  obtain ⟨cJ, kJ, oJ, fJ, gJ, hJ⟩ := Cond.arrayClass_spec (hts (.arrayClass .long) (by decide +kernel))
  have aR := hts (.arrayOver (.object "SlowerForTheLate$Row")) (by decide +kernel)
  have aW := hts (.arrayOver (.object "SlowerForTheLate$Walker")) (by decide +kernel)
  obtain ⟨oR, cR9, kR, fR, -, gR, hR9, iR⟩ := Cond.arrayOver_spec aR
  obtain ⟨oW, cW9, kW, fW9, -, gW, hW9, iW⟩ := Cond.arrayOver_spec aW
  obtain ⟨E, hE⟩ : ∃ E : zE, E = (l, (fun c => (D c).1, fun c => (D c).2), s.heap.size, s.heap, (fun n => if n = 0 then b else if n = 1 then tL else tM), (fun n => if n = 0 then L else 4), (fun n => if n = 0 then xs else if n = 1 then zrulL else zrulM), fun n => if n = 16 then cI else if n = 17 then cZ else if n = 18 then cR9 else if n = 19 then cW9 else cJ) := ⟨_, rfl⟩
  have hK : va_K (eD E) zCl (zTys E) s := by
    subst hE
    refine ⟨hKc, fun k q hq => ?_⟩
    match k, hq with
    | 0, hq => cases hq; exact ⟨zarr_of gI hI, fI⟩
    | 1, hq => cases hq; exact ⟨zarr_of gZ hZ, fZ⟩
    | 2, hq => cases hq; exact ⟨zarr_of gR hR9, kR, oR, gR, hR9, fR, iR⟩
    | 3, hq => cases hq; exact ⟨zarr_of gW hW9, kW, oW, gW, hW9, fW9, iW⟩
    | 4, hq => cases hq; exact ⟨zarr_of gJ hJ, fJ⟩
    | k + 5, hq => simp [zTys] at hq
  have hSK : zSK E s := by
    refine ⟨hK, ?_⟩
    subst hE
    refine ⟨fun n hn => ?_, va_Zof (hts (.laysStatic "SlowerForTheLate$Plan" "LEAST_RULES" "[I") (by decide +kernel)) (hts (.initialized "SlowerForTheLate$Plan") (by decide +kernel)) TL nA, va_Zof (hts (.laysStatic "SlowerForTheLate$Plan" "MOST_RULES" "[I") (by decide +kernel)) (hts (.initialized "SlowerForTheLate$Plan") (by decide +kernel)) TM nA, va_AO.of aR, va_AO.of aW, fun C hC => ?_, va_Nw.of rfl (hts (.methodLinkNest "SlowerForTheLate" 28 ⟨"SlowerForTheLate$Trip", "<init>", "()V"⟩ "SlowerForTheLate") (by decide +kernel))⟩
    · rcases (by omega : n = 0 ∨ n = 1 ∨ n = 2) with e | e | e
      · subst e; exact ⟨hX, hbl⟩
      · subst e; exact ⟨XL, SL⟩
      · subst e; exact ⟨XM, SM⟩
    · simp only [zSubs, List.mem_cons, List.not_mem_nil, or_false] at hC
      rcases hC with rfl | rfl | rfl | rfl | rfl | rfl | rfl
      · exact va_Nw.of rfl (hts (.castable "SlowerForTheLate$Runner" "SlowerForTheLate$Walker") (by decide +kernel))
      · exact va_Nw.of rfl (hts (.castable "SlowerForTheLate$Tardy" "SlowerForTheLate$Walker") (by decide +kernel))
      · exact va_Nw.of rfl (hts (.castable "SlowerForTheLate$Lover" "SlowerForTheLate$Walker") (by decide +kernel))
      · exact va_Nw.of rfl (hts (.castable "SlowerForTheLate$Staff" "SlowerForTheLate$Walker") (by decide +kernel))
      · exact va_Nw.of rfl (hts (.castable "SlowerForTheLate$Sleeper" "SlowerForTheLate$Walker") (by decide +kernel))
      · exact va_Nw.of rfl (hts (.castable "SlowerForTheLate$Aimer" "SlowerForTheLate$Walker") (by decide +kernel))
      · exact va_Nw.of rfl (hts (.castable "SlowerForTheLate$Parent" "SlowerForTheLate$Walker") (by decide +kernel))
  have hSX : zSX E s := by
    subst hE
    refine ⟨by show Launch.stackTraces l = false; unfold Launch.stackTraces; rw [hflags]; decide +kernel, vx_Zqof (hts (.laysStatic "java/lang/Throwable" "UNASSIGNED_STACK" "[Ljava/lang/StackTraceElement;") (by decide +kernel)) (hts (.initialized "java/lang/Throwable") (by decide +kernel)) (hs (.isRef (.static "java/lang/Throwable" "UNASSIGNED_STACK" "[Ljava/lang/StackTraceElement;")) (by decide +kernel)) nA, vx_Zqof (hts (.laysStatic "java/lang/Throwable" "SUPPRESSED_SENTINEL" "Ljava/util/List;") (by decide +kernel)) (hts (.initialized "java/lang/Throwable") (by decide +kernel)) (hs (.isRef (.static "java/lang/Throwable" "SUPPRESSED_SENTINEL" "Ljava/util/List;")) (by decide +kernel)) nA, fun q hq => ?_, fun C hC => ?_, fun C hC => ?_, fun C hC D hD hn => ?_⟩
    · simp only [zStrs, List.mem_cons, List.not_mem_nil, or_false] at hq
      rcases hq with rfl | rfl | rfl | rfl | rfl | rfl
      · exact zstr (hKc 11 _ rfl).2.1 (hts (.stringRef "SlowerForTheLate" 329 "there is no such shelf") (by decide +kernel))
      · exact zstr (hKc 11 _ rfl).2.1 (hts (.stringRef "SlowerForTheLate" 336 "there is no row on this shelf") (by decide +kernel))
      · exact zstr (hKc 11 _ rfl).2.1 (hts (.stringRef "SlowerForTheLate" 339 "there is no such place in this row") (by decide +kernel))
      · exact zstr (hKc 0 _ rfl).2.1 (hts (.stringRef "SlowerForTheLate$Aimer" 28 "one who aimed has failed") (by decide +kernel))
      · exact zstr (hKc 8 _ rfl).2.1 (hts (.stringRef "SlowerForTheLate$Tardy" 36 "a tardy one has failed") (by decide +kernel))
      · exact zstr (hKc 10 _ rfl).2.1 (hts (.stringRef "SlowerForTheLate$Walker" 42 "one has failed") (by decide +kernel))
    · simp only [zDecl, List.mem_cons, List.not_mem_nil, or_false] at hC
      rcases hC with rfl | rfl | rfl
      · exact va_Nw.of rfl (hts _ (by decide +kernel))
      · exact va_Nw.of rfl (hts _ (by decide +kernel))
      · exact va_Nw.of rfl (hts _ (by decide +kernel))
    · simp only [zExs, List.mem_cons, List.not_mem_nil, or_false] at hC
      rcases hC with rfl | rfl | rfl
      · exact va_Nw.of rfl (hts _ (by decide +kernel))
      · exact va_Nw.of rfl (hts _ (by decide +kernel))
      · exact va_Nw.of rfl (hts _ (by decide +kernel))
    · simp only [zExs, List.mem_cons, List.not_mem_nil, or_false] at hC hD
      rcases hC with rfl | rfl | rfl <;> rcases hD with rfl | rfl | rfl <;> first | exact absurd rfl hn | exact va_Nc.of (hs _ (by decide +kernel))
  have ok : zOKr M_L_law c.exceptionTable.toList room_1 11 P_L_law := ⟨oky_L_law, by decide, by decide⟩
  have eB9 : eB E = s.heap.size := by subst hE; rfl
  have go := law_go (E := E) (b := (fun n => (21, eN E n), eX E, fun _ _ => none, fun _ _ => 0, 3)) (L := L) (Z := zZl E) ok (Nat.ble_eq_true_of_le hL) (law_end ok) (by subst hE; rfl) (by subst hE; rfl) (by subst hE; rfl) (by subst hE; exact rulL) (by subst hE; exact rulM)
  have hl := lv_entry ([.ref b]) (n := 8) (Nat.le_of_ble_eq_true rfl)
  rw [lg_entry_eq]
  generalize (lg_sl ([.ref b]) ++ List.replicate (8 - (lg_sl ([.ref b])).length) Slot.unset).toArray = ls9 at hl ⊢
  have hl : lv_has ls9 8 [(0, .ref b)] := hl
  have hw := go p e s m #[Value.ref b] below meth c ⟨hx, hb, hr, hlocks, hml, hown, hg, hSK, hname, rfl, hSX⟩ s.heap [] ls9 ?_ ?_ (fun _ q => by cases q) (Nat.le_refl _) (Nat.le_refl _)
  · have e1 : eL E = l := by subst hE; rfl
    rw [e1] at hw
    dsimp only at hw
    rw [show room_1.cells - 601024 = 0 from by decide +kernel, show room_1.slots - 7293034 = 0 from by decide +kernel] at hw
    exact zW_mono hw fun t ⟨o, y1, y2, y3⟩ => ⟨o, y1, y2, y3 eB9.symm⟩
  · have z3 : zn (zOv ((fun n => (21, eN E n), eX E, fun _ _ => none, fun _ _ => 0, 3) : zS) zq0) = 3 := rfl
    refine ⟨?_, ?_, fun n n0 n1 => ?_, fun q _ => ?_, fun n hn => ?_, fun n hn => ?_⟩
    · show 3 ≤ zn _
      rw [z3]
      exact Nat.le_refl 3
    · show s.heap.size = eB E + (zn _ - 3)
      rw [eB9, z3]
      exact (Nat.add_zero _).symm
    · have n1 : n < 3 := n1
      omega
    · have e9 : eH E = s.heap := by subst hE; rfl
      rw [e9]
    · have e : Nat.ble 3 n = false := by
        cases e : Nat.ble 3 n
        · rfl
        · have := Nat.le_of_ble_eq_true e; omega
      refine ⟨?_, fun j _ => ?_⟩
      · show cond (Nat.ble 3 n) _ _ = _
        rw [e]; rfl
      · show cond (Nat.ble 3 n) _ _ = _
        rw [e]; rfl
    · have hn : 3 ≤ n := hn
      rw [(zov_hi hn).1]
      rfl
  · have e2 : eA E 0 = b := by subst hE; rfl
    show lv_has _ 8 [(0, .ref (zad E 0))]
    have e3 : zad E 0 = b := e2
    rw [e3]
    exact hl
set_option maxHeartbeats 4000000 in
theorem lw_walk (l : Launch) (hflags : l.flags = flags0) (b : Addr) (xs : List Int32) : MetFree l x (headSpec (Jvm.Cond.code x code maxLocals ret :: tables_1) room_1) (lw_P b xs) (fun _ _ _ _ _ => True) lw_Q := by
  refine MetFree.of_bodyS (code := code) (maxLocals := maxLocals) (ret := ret) (by decide) ?_ ?_
  · intro args s m h hn
    obtain ⟨meth, c, h1, h2, h3, h4, h5, h6, -, -⟩ := Cond.code_spec hn (atoms_spec (ws := Jvm.Cond.code x code maxLocals ret :: tables_1) h _ List.mem_cons_self)
    exact ⟨meth, c, h1, h2, h3, h4, h5, h6⟩
  · intro p e s m args below meth c s₁ B hml0 hP _
    obtain ⟨rfl, hx, hbd, hgv⟩ := hP
    obtain ⟨scr, harrAt, hlist, hof, hsmall⟩ := hx
    obtain ⟨hcb, hkn, -, -⟩ := State.arrayAt?_spec harrAt
    have hown : s.vm.findClass R_law = some m.cls := findClass_of_methodNamed B.named
    have hts0 : ∀ c ∈ (Jvm.Cond.code x code maxLocals ret :: tables_1), c.before #[Value.ref b] s = true := atoms_spec (ws := Jvm.Cond.code x code maxLocals ret :: tables_1) B.pre
    have hts : ∀ w ∈ lw_tbl, w.before #[Value.ref b] s = true := k2_hts_sels lw_privs (fun w hw => hts0 w (List.mem_cons_of_mem _ hw)) lw_privs_ok
    have hml : c.maxLocals = 8 := B.maxLocals_eq (hts0 _ List.mem_cons_self)
    have X₀ : Stand p l e room_1 s m #[Value.ref b] below meth c s₁ [] 0 0 := Stand.of_body B
    have hh0 : s₁.heap = s.heap := by rw [B.state]; rfl
    have hsz : scr.slots.size = xs.length := by rw [← Array.length_toList, hlist, List.length_map]
    have hval : ∀ j : Nat, j < xs.length → scr.slots[j]? = some (.int (xs.getD j 0)) := fun j hj => by
      rw [← Array.getElem?_toList, hlist]
      simp [hj]
    have hbl : b < s.heap.size := (Array.getElem?_eq_some_iff.mp hcb).1
    have hX : va_X b xs.length (fun j => xs.getD j 0) s s.heap := ⟨scr, hcb, hof, hkn, hsz, hval⟩
    have K : W p l e room_1 s m #[Value.ref b] below meth c s₁.heap [] 0 0 (lw_Z below #[Value.ref b] s) (entryFrame m ([Value.ref b] : List Value).toArray 8) := by
      rw [hh0]
      exact whole_start l hflags hbd ⟨B.exec, B.bytes, B.returns, hml, hown, hts, hX, hbl, B.notSynchronized, hgv, (name_of_methodNamed B.named B.method).1⟩
    obtain ⟨t, a1, o, b1, b2, b3⟩ := K s₁ rfl X₀
    exact ⟨t, o, a1, b1, b2, b3⟩
theorem lw_pre_spec {args : Array Value} {s : State} (h : (Jvm.Cond.and given_1 narrow_1).before args s = true) (hr : rest_1_c.before args s = true) : ∃ (b : Addr) (xs : List Int32), lw_P b xs args s := by
  have hs := flat_of_before _ h
  have hq := flat_of_before _ hr
  have hc : (Cond.count 1).before args s = true := hs _ (by decide +kernel)
  have harr : (Cond.arrayOf (.arg 0) .int).before args s = true := hs _ (by decide +kernel)
  have hle : (Cond.le (.length (.arg 0)) (.int 3072)).before args s = true := hs _ (by decide +kernel)
  have hlen : (Cond.isInt (.length (.arg 0))).before args s = true := hq _ (by decide +kernel)
  have hall : (Cond.all (.arg 0) (.isInt (.elem (.arg 0) (.index 0)))).before args s = true := hq _ (by decide +kernel)
  obtain ⟨b, xs, hb, hx⟩ := State.ints_of_pre rfl harr hlen hall
  have hsm : xs.length < 2 ^ 31 := hx.choose_spec.2.2.2
  have hev : (Term.length (.arg 0)).eval args s none [] s = some (.int xs.length.toInt32) := hx.length_eval hb
  have hv := Cond.le_ints hev (show (Term.int 3072).eval args s none [] s = some (.int 3072) from rfl)
  have hd : xs.length.toInt32 ≤ 3072 := by
    simpa [Cond.before, Cond.holds, hv] using hle
  have hN : xs.length ≤ 3072 := (Int32.ofNat_le_ofNat hsm (by decide)).mp (show Int32.ofNat xs.length ≤ Int32.ofNat 3072 from hd)
  exact ⟨b, xs, Cond.one_arg hc (show args[0]? = some (.ref b) from hb), hx, hN, h⟩
theorem lw_comes (l : Launch) (hflags : l.flags = flags0) : Comes l x (Jvm.Cond.code x code maxLocals ret :: tables_1) room_1 (fun tb e args s => Calls_1 tb e args s ∧ rest_1 tb e args s ∧ Pre_1 tb e args s)
    (fun _ _ args s o t => lw_Q args s o t) := by
  intro p e ha hc hk s m args below hf hfit hheap happ hpre
  obtain ⟨b, xs, hP⟩ := lw_pre_spec hpre.2.2 hpre.2.1
  obtain ⟨k, o, h1, h2, h3, hQ⟩ := lw_walk l hflags b xs p e ha hc hk s m args below hf ((Spec.applies_iff_loose hf).mp happ).1 hP trivial
  exact ⟨k, o, h1, h2, h3, hQ⟩
theorem lw_frame {s t : State} {o : Outcome} {args : Array Value} (h : Framed s o t [] 601024 7293034) :
    Framed s o t (fieldLocs frame_1_writes args s ++ arrayLocs frame_1_arrays args s ++ staticLocs frame_1_statics s) 601024 7293034 := h
theorem lw_limb (L : Cond) (hL : ∀ (args : Array Value) (s t : State), L.after args s (.returned (some (.int 1))) t = true) :
    ArmFor flags0 classFile x code maxLocals ret World_1 tables_1 room_1 Calls_1 rest_1 Pre_1
      (fun tb e a s o t => postC L tb e a s o t ∧ Framed s o t (fieldLocs frame_1_writes a s ++ arrayLocs frame_1_arrays a s ++ staticLocs frame_1_statics s) 601024 7293034) := by
  intro l hflags _ _ p e ha hc hk s m args below hf hfit hheap happ hpre
  obtain ⟨k, o, h1, h2, h3, rfl, hF⟩ := lw_comes l hflags p e ha hc hk s m args below hf hfit hheap happ hpre
  exact ⟨k, _, h1, h2, h3, hL args s _, lw_frame hF⟩
theorem i_vc : Claimed_1_1 ∧ Claimed_1_2 := ⟨lw_limb limb_1_1 (fun args s t => by simp [limb_1_1, Cond.after, Cond.holds, Cond.value]), lw_limb limb_1_2 (fun args s t => Cond.after_iff.mpr (by
  first | (rw [show limb_1_2 = Cond.eq .result (.int 1) from rfl, Cond.eq_ints (x := 1) (y := 1) rfl rfl]; simp; done) | (simp [limb_1_2, Cond.value, Term.eval]; done)))⟩

