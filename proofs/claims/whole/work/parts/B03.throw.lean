/-! methods that throw, methods that catch -/
section
variable {p : Program} {l : Launch} {e : Env} {R : Room} {s : State} {m : MethodId} {args : Array Value} {below : List Frame} {meth : Method} {c : Code} {H : Heap} {locs : List Loc} {cells slots : Nat} {Q : State → Prop}
variable {mc ms : Nat} {free : Addr → Prop} {A0 A1 : Nat → Prop} {H0 : Heap} {a : Array Value} {ls : Array Slot} {st0 rest : List Value}
variable {Qc : Array Value → State → Outcome → State → Prop} {XC : String → State → State → Prop}
theorem vx_throwZ {cc : ByteArray} {pc : Nat} (hexec : p.tables.exec = Jvm.exec) (hb : c.code = cc) (hl : l.stackTraces = false) {own cls text : String} {names : List String} {ik is ic mc ms sa : Nat} {A : Nat → Prop}
    (hown : s.vm.findClass own = some m.cls) (hcls : Bundle.fit cls = true) (hnames : ∀ n ∈ names, Bundle.fit n = true)
    (hk : (Cond.classLink own ik cls).before args s = true) (hini : (Cond.initialized cls).before args s = true) (hstr : vk_R own is text sa s) (hat : ∀ w ∈ vx_atS own ic cls names, w.before args s = true)
    (hgood : ∀ w ∈ Cond.classLink own ik cls :: Cond.initialized cls :: vx_atS own ic cls names, vx_ot w = true)
    (hU : vx_Zq Bundle.tN "UNASSIGNED_STACK" Bundle.steD A s H) (hN : vx_Zq Bundle.tN "SUPPRESSED_SENTINEL" Bundle.listD A s H) (hsize : ls.size = c.maxLocals)
    (d0 : decode cc pc = .ok (.new ik, 3)) (d3 : decode cc (pc + 3) = .ok (.dup, 1)) (d4 : decode cc (pc + 4) = .ok (.ldc is, 2)) (d6 : decode cc (pc + 6) = .ok (.invokespecial ic, 3)) (d9 : decode cc (pc + 9) = .ok (.athrow, 1))
    (hout : ∀ x ∈ c.exceptionTable.toList, covers x (pc + 9) = false)
    (hRframes : names.length + 3 < R.frames) (hRlocals : (rest.map fun v => v.category).sum + (13 * (names.length + 1) + 43) ≤ R.locals) (hRcells : cells + 1 ≤ R.cells) (hRslots : slots + 6 ≤ R.slots) (hlocks : meth.locks = false)
    (hx : ∀ t : State, s.vm.Alike t.vm → t.heap.size = H.size + 1 → (∀ q : Nat, q < H.size → t.heap[q]? = H[q]?) → (∃ ce : Cell, t.heap[H.size]? = some ce ∧ ce.vm = .none ∧ s.vm.findClass cls = some ce.cls) → XC cls s t)
    (hf : ∀ z ∈ locs, free z.base) (hc : cells + 1 ≤ mc) (hs : slots + 6 ≤ ms) :
    W p l e R s m args below meth c H locs cells slots (vx_MQ below Qc XC args s mc ms free) (F0 m pc ls rest) := by
  intro T hT X
  have htr : e.platform.stackTraces = false := (show e.platform.stackTraces = l.stackTraces by rw [X.admits.platform]).trans hl
  have Y := vx_rebase X (R' := { frames := R.frames, locals := R.locals, cells := 1, slots := 6 }) (Nat.le_refl _) (Nat.le_refl _) hRcells hRslots
  obtain ⟨s', hA⟩ : ∃ z, z = (T.setVm s.vm).setFrames (.invoking m args :: below) := ⟨_, rfl⟩
  rw [← hA] at Y
  have hvm : s'.vm = s.vm := by rw [hA]; rfl
  have hhp : s'.heap = H := by rw [hA]; exact hT
  have hW0 : s.WarmedH s'.vm := by rw [hvm]; exact State.WarmedH.refl s
  have hat' : ∀ w ∈ vx_atS own ic cls names, w.before args s' = true := fun w hw => vx_ot_at hW0 hvm.symm (hgood w (List.mem_cons_of_mem _ (List.mem_cons_of_mem _ hw))) (hat w hw)
  have hk' : (Cond.classLink own ik cls).before args s' = true := vx_ot_at hW0 hvm.symm (hgood _ List.mem_cons_self) hk
  have hini' : (Cond.initialized cls).before args s' = true := vx_ot_at hW0 hvm.symm (hgood _ (List.mem_cons_of_mem _ List.mem_cons_self)) hini
  have hU' : vx_Zq Bundle.tN "UNASSIGNED_STACK" Bundle.steD A s' s'.heap := by rw [hhp]; exact vx_Zq.moved hW0.alike hU
  have hN' : vx_Zq Bundle.tN "SUPPRESSED_SENTINEL" Bundle.listD A s' s'.heap := by rw [hhp]; exact vx_Zq.moved hW0.alike hN
  have h : ∀ w ∈ Bundle.ownAtoms own ic cls names, w.before args s' = true := vx_own hat' (vx_isRefq hU'.1) (vx_isRefq hN'.1) hU'.2.word hN'.2.word
  have hown' : s'.vm.findClass own = some m.cls := by rw [hvm]; exact hown
  have hins : (Cond.instantiable cls 6).before args s' = true := h _ (by simp [Bundle.ownAtoms])
  obtain ⟨vm₁, cX, kX, hfX, hkX, -, -, X₁, st1⟩ := Y.newCold hexec (own := own) (C := cls) (index := ik) (n := 6) hown' hk' hins hini'
    (g := F0 m pc ls rest) rfl (by rw [hb]; exact d0) (Nat.le_refl _) (Nat.le_refl _)
  generalize hT1 : (T.setVm vm₁).pushCell { cls := cX, slots := kX.instanceTypes.map defaultValue, vm := .none } = T1 at X₁ st1
  have hcat : (Value.ref T.heap.size).category = 1 := rfl
  have hcellA : T1.heap[T.heap.size]? = some (freshCell cX kX) := by rw [← hT1]; exact State.heap_pushCell_size _ _
  have d3' : decode c.code (pc + 3) = .ok (.dup, 1) := by rw [hb]; exact d3
  have d4' : decode c.code (pc + 4) = .ok (.ldc is, 2) := by rw [hb]; exact d4
  have hstr' : vk_R own is text sa s' := vk_R.warm hW0 hstr
  obtain ⟨U, hsteps, hrun, hend, hW, hsame, ce, hce, hO⟩ := X₁.ctorThrowS hexec htr (own := own) (cls := cls) (names := names) (ic := ic) hown' hcls hnames h (fun x hx => nomatch hx) hfX hkX hcellA (by rw [hhp, hT]; exact Nat.le_refl _) (msg := .ref sa) rfl
    (g := { method := m, pc := pc + 6, locals := ls, stack := .ref sa :: .ref T.heap.size :: .ref T.heap.size :: rest, locked := none }) rfl hsize rfl rfl (rest := rest) rfl
    (by rw [hb]; exact d6) (by rw [hb]; exact d9) hout hRframes (by simp only [List.map_cons, List.sum_cons, hcat]; omega) hlocks
  obtain ⟨f1, f2⟩ := vx_frame hsame
  rw [hhp] at f1 f2
  have hWs : s.WarmedH U.vm := State.WarmedH.trans hW0 hW
  have hcl : s.vm.findClass cls = some ce.cls := by
    have h9 := hO.cls
    rw [hvm] at h9
    exact h9
  have hsz : U.heap.size = H.size + 1 := by
    have z1 := hsame.2.2.1
    have z2 := (Array.getElem?_eq_some_iff.mp hce).1
    rw [hT] at z2
    have z3 : ({ U with vm := s'.vm } : State).heap.size ≤ s'.heap.size + 1 := z1
    rw [hhp] at z3
    have z4 : U.heap.size ≤ H.size + 1 := z3
    omega
  have hall : s.sameButNew ({ U with vm := s.vm } : State) locs mc ms := by
    subst hA
    obtain ⟨e1, e2⟩ := hsame
    rw [State.setFrames_setFrames] at e1
    have h2 : (T.setVm s.vm).sameButNew ({ U with vm := s.vm } : State) [] (0 + 1) (0 + 6) := ⟨e1, e2⟩
    have h3 := X.same.trans h2
    rw [List.append_nil] at h3
    exact h3.mono hc hs
  refine ⟨U, ?_, .threw T.heap.size, hrun, hend, Or.inr ⟨T.heap.size, rfl, cls, ce, locs, hx U hWs.alike hsz (fun q hq => f2 q hq (fun z hz => nomatch hz)) ⟨ce, by rw [← hT]; exact hce, hO.vm, hcl⟩, hce, hO.vm, hcl, hWs, hall, hf⟩⟩
  refine st1 _ ?_
  show Steps p.tables e below (T1.setTop { method := m, pc := pc + 3, locals := ls, stack := .ref T.heap.size :: rest, locked := none }) _
  jvm_step X₁.here [X₁.here.top, hexec, d3', Value.category]
  exact X₁.ldcString hexec (own := own) (text := text) (index := is) (a := sa) hown' hstr'.1 hstr'.2
    (g := { method := m, pc := pc + 4, locals := ls, stack := .ref T.heap.size :: .ref T.heap.size :: rest, locked := none }) rfl d4' _ hsteps
theorem vx_throwZW {cc : ByteArray} {pc : Nat} (hexec : p.tables.exec = Jvm.exec) (hb : c.code = cc) (hl : l.stackTraces = false) {own cls text : String} {names : List String} {ik is ic mc ms sa : Nat} {A : Nat → Prop}
    (hown : s.vm.findClass own = some m.cls) (hcls : Bundle.fit cls = true) (hnames : ∀ n ∈ names, Bundle.fit n = true)
    (hk : (Cond.classLink own ik cls).before args s = true) (hini : (Cond.initialized cls).before args s = true) (hstr : vk_R own is text sa s) (hat : ∀ w ∈ vx_atS own ic cls names, w.before args s = true)
    (hgood : ∀ w ∈ Cond.classLink own ik cls :: Cond.initialized cls :: vx_atS own ic cls names, vx_ot w = true)
    (hU : vx_Zq Bundle.tN "UNASSIGNED_STACK" Bundle.steD A s H) (hN : vx_Zq Bundle.tN "SUPPRESSED_SENTINEL" Bundle.listD A s H) (hsize : ls.size = c.maxLocals)
    (d0 : decode cc pc = .ok (.new ik, 3)) (d3 : decode cc (pc + 3) = .ok (.dup, 1)) (d4 : decode cc (pc + 4) = .ok (.ldc_w is, 3)) (d7 : decode cc (pc + 7) = .ok (.invokespecial ic, 3)) (d10 : decode cc (pc + 10) = .ok (.athrow, 1))
    (hout : ∀ x ∈ c.exceptionTable.toList, covers x (pc + 10) = false)
    (hRframes : names.length + 3 < R.frames) (hRlocals : (rest.map fun v => v.category).sum + (13 * (names.length + 1) + 43) ≤ R.locals) (hRcells : cells + 1 ≤ R.cells) (hRslots : slots + 6 ≤ R.slots) (hlocks : meth.locks = false)
    (hx : ∀ t : State, s.vm.Alike t.vm → t.heap.size = H.size + 1 → (∀ q : Nat, q < H.size → t.heap[q]? = H[q]?) → (∃ ce : Cell, t.heap[H.size]? = some ce ∧ ce.vm = .none ∧ s.vm.findClass cls = some ce.cls) → XC cls s t)
    (hf : ∀ z ∈ locs, free z.base) (hc : cells + 1 ≤ mc) (hs : slots + 6 ≤ ms) :
    W p l e R s m args below meth c H locs cells slots (vx_MQ below Qc XC args s mc ms free) (F0 m pc ls rest) := by
  intro T hT X
  have htr : e.platform.stackTraces = false := (show e.platform.stackTraces = l.stackTraces by rw [X.admits.platform]).trans hl
  have Y := vx_rebase X (R' := { frames := R.frames, locals := R.locals, cells := 1, slots := 6 }) (Nat.le_refl _) (Nat.le_refl _) hRcells hRslots
  obtain ⟨s', hA⟩ : ∃ z, z = (T.setVm s.vm).setFrames (.invoking m args :: below) := ⟨_, rfl⟩
  rw [← hA] at Y
  have hvm : s'.vm = s.vm := by rw [hA]; rfl
  have hhp : s'.heap = H := by rw [hA]; exact hT
  have hW0 : s.WarmedH s'.vm := by rw [hvm]; exact State.WarmedH.refl s
  have hat' : ∀ w ∈ vx_atS own ic cls names, w.before args s' = true := fun w hw => vx_ot_at hW0 hvm.symm (hgood w (List.mem_cons_of_mem _ (List.mem_cons_of_mem _ hw))) (hat w hw)
  have hk' : (Cond.classLink own ik cls).before args s' = true := vx_ot_at hW0 hvm.symm (hgood _ List.mem_cons_self) hk
  have hini' : (Cond.initialized cls).before args s' = true := vx_ot_at hW0 hvm.symm (hgood _ (List.mem_cons_of_mem _ List.mem_cons_self)) hini
  have hU' : vx_Zq Bundle.tN "UNASSIGNED_STACK" Bundle.steD A s' s'.heap := by rw [hhp]; exact vx_Zq.moved hW0.alike hU
  have hN' : vx_Zq Bundle.tN "SUPPRESSED_SENTINEL" Bundle.listD A s' s'.heap := by rw [hhp]; exact vx_Zq.moved hW0.alike hN
  have h : ∀ w ∈ Bundle.ownAtoms own ic cls names, w.before args s' = true := vx_own hat' (vx_isRefq hU'.1) (vx_isRefq hN'.1) hU'.2.word hN'.2.word
  have hown' : s'.vm.findClass own = some m.cls := by rw [hvm]; exact hown
  have hins : (Cond.instantiable cls 6).before args s' = true := h _ (by simp [Bundle.ownAtoms])
  obtain ⟨vm₁, cX, kX, hfX, hkX, -, -, X₁, st1⟩ := Y.newCold hexec (own := own) (C := cls) (index := ik) (n := 6) hown' hk' hins hini'
    (g := F0 m pc ls rest) rfl (by rw [hb]; exact d0) (Nat.le_refl _) (Nat.le_refl _)
  generalize hT1 : (T.setVm vm₁).pushCell { cls := cX, slots := kX.instanceTypes.map defaultValue, vm := .none } = T1 at X₁ st1
  have hcat : (Value.ref T.heap.size).category = 1 := rfl
  have hcellA : T1.heap[T.heap.size]? = some (freshCell cX kX) := by rw [← hT1]; exact State.heap_pushCell_size _ _
  have d3' : decode c.code (pc + 3) = .ok (.dup, 1) := by rw [hb]; exact d3
  have d4' : decode c.code (pc + 4) = .ok (.ldc_w is, 3) := by rw [hb]; exact d4
  have hstr' : vk_R own is text sa s' := vk_R.warm hW0 hstr
  obtain ⟨U, hsteps, hrun, hend, hW, hsame, ce, hce, hO⟩ := X₁.ctorThrowS hexec htr (own := own) (cls := cls) (names := names) (ic := ic) hown' hcls hnames h (fun x hx => nomatch hx) hfX hkX hcellA (by rw [hhp, hT]; exact Nat.le_refl _) (msg := .ref sa) rfl
    (g := { method := m, pc := pc + 7, locals := ls, stack := .ref sa :: .ref T.heap.size :: .ref T.heap.size :: rest, locked := none }) rfl hsize rfl rfl (rest := rest) rfl
    (by rw [hb]; exact d7) (by rw [hb]; exact d10) hout hRframes (by simp only [List.map_cons, List.sum_cons, hcat]; omega) hlocks
  obtain ⟨f1, f2⟩ := vx_frame hsame
  rw [hhp] at f1 f2
  have hWs : s.WarmedH U.vm := State.WarmedH.trans hW0 hW
  have hcl : s.vm.findClass cls = some ce.cls := by
    have h9 := hO.cls
    rw [hvm] at h9
    exact h9
  have hsz : U.heap.size = H.size + 1 := by
    have z1 := hsame.2.2.1
    have z2 := (Array.getElem?_eq_some_iff.mp hce).1
    rw [hT] at z2
    have z3 : ({ U with vm := s'.vm } : State).heap.size ≤ s'.heap.size + 1 := z1
    rw [hhp] at z3
    have z4 : U.heap.size ≤ H.size + 1 := z3
    omega
  have hall : s.sameButNew ({ U with vm := s.vm } : State) locs mc ms := by
    subst hA
    obtain ⟨e1, e2⟩ := hsame
    rw [State.setFrames_setFrames] at e1
    have h2 : (T.setVm s.vm).sameButNew ({ U with vm := s.vm } : State) [] (0 + 1) (0 + 6) := ⟨e1, e2⟩
    have h3 := X.same.trans h2
    rw [List.append_nil] at h3
    exact h3.mono hc hs
  refine ⟨U, ?_, .threw T.heap.size, hrun, hend, Or.inr ⟨T.heap.size, rfl, cls, ce, locs, hx U hWs.alike hsz (fun q hq => f2 q hq (fun z hz => nomatch hz)) ⟨ce, by rw [← hT]; exact hce, hO.vm, hcl⟩, hce, hO.vm, hcl, hWs, hall, hf⟩⟩
  refine st1 _ ?_
  show Steps p.tables e below (T1.setTop { method := m, pc := pc + 3, locals := ls, stack := .ref T.heap.size :: rest, locked := none }) _
  jvm_step X₁.here [X₁.here.top, hexec, d3', Value.category]
  exact X₁.ldcStringW hexec (own := own) (text := text) (index := is) (a := sa) hown' hstr'.1 hstr'.2
    (g := { method := m, pc := pc + 4, locals := ls, stack := .ref T.heap.size :: .ref T.heap.size :: rest, locked := none }) rfl d4' _ hsteps
end
/-- a contract's start, with what exceptions stand on -/
def zPx (E : zE) (σ : zS) (vs : List Value) : Array Value → State → Prop := fun a U => a = (vs.map (ztr E)).toArray ∧ zRel E σ U.heap ∧ zSK E U ∧ zSX E U
theorem zpx_blind {E : zE} {σ : zS} {vs : List Value} : FrameBlind (zPx E σ vs) := fun a U g mk ⟨h1, h2, h3, h4⟩ => ⟨h1, h2, h3.same (u := U) (U := U.calling g mk a) rfl, h4.same (u := U) (U := U.calling g mk a) rfl⟩
theorem zpx_at {E : zE} {σ : zS} {vs : List Value} {H : Heap} {s U : State} {a : Array Value} (ha : a = (vs.map (ztr E)).toArray) (hR : zRel E σ H) (hSK : zSK E s) (hSX : zSX E s) (hU : U.heap = H) (hW : s.WarmedH U.vm) : zPx E σ vs a U := ⟨ha, by rw [hU]; exact hR, hSK.warm hW, hSX.warm hW⟩
/-- what is thrown: its class by number, the state behind it -/
def zXC (E : zE) (XQ : Nat → zS → Prop) : String → State → State → Prop := fun C _ t => ∃ (ci : Nat) (σ' : zS), 13 ≤ ci ∧ zExs[ci - 13]? = some C ∧ XQ ci σ' ∧ zRel E σ' t.heap
/-- a contract of a method that returns with Q or throws with XQ -/
def zXT (E : zE) (d : Nat) (M : zM) (vs : List Value) (σ : zS) (mc ms : Nat) (Q : zQ) (XQ : Nat → zS → Prop) : Prop := vx_Met (eL E) M.1 (zW M) (zRm d mc ms) (zPx E σ vs) (zQc E Q) (zXC E XQ) mc ms (zFr E)
/-- .. that has a table, and returns -/
def zWT (M : zM) (hh : List (Nat × Nat × Nat × Nat)) : List Cond := .codeWith M.1 M.2.1 M.2.2.1 M.2.2.2 hh :: zTb
def zCW (E : zE) (d : Nat) (M : zM) (hh : List (Nat × Nat × Nat × Nat)) (vs : List Value) (σ : zS) (mc ms : Nat) (Q : zQ) : Prop := Met (eL E) M.1 (zWT M hh) (zRm d mc ms) (zPx E σ vs) (zQc E Q) mc ms (zFr E)
/-- .. that has none, and returns, but calls such -/
def zCX (E : zE) (d : Nat) (M : zM) (vs : List Value) (σ : zS) (mc ms : Nat) (Q : zQ) : Prop := Met (eL E) M.1 (zW M) (zRm d mc ms) (zPx E σ vs) (zQc E Q) mc ms (zFr E)
def zZx (E : zE) (Q : zQ) (XQ : Nat → zS → Prop) (mc ms : Nat) : zEd := fun below args s => vx_MQ below (zQc E Q) (zXC E XQ) args s mc ms (zFr E)
def zZq (E : zE) (Q : zQ) (mc ms : Nat) : zEd := fun below args s => MQ below (zQc E Q) args s mc ms (zFr E)
abbrev zIni (vs : List Value) (nL : Nat) : List (Option Value) := zargs vs ++ List.replicate (nL - (zargs vs).length) none
theorem zXT_of {E : zE} {d : Nat} {M : zM} {vs : List Value} {σ : zS} {mc ms : Nat} {Q : zQ} {XQ : Nat → zS → Prop} (hp : plainName M.1.cls = true) (hn : (zargs vs).length ≤ M.2.2.1)
    (h : zGy E M [] (zRm d mc ms) (zZx E Q XQ mc ms) 0 (zIni vs M.2.2.1, [], σ, mc, ms)) : zXT E d M vs σ mc ms Q XQ := by
  refine vx_ofW (cc := M.2.1) (maxL := M.2.2.1) (ret := M.2.2.2) hp rfl ?_
  intro p e s m args below meth c s₁ B hml htb hv
  obtain ⟨rfl, hR, hSK, hSX⟩ := hv
  have hts := atoms_spec (ws := zW M) B.pre
  have hl := lv_entry (vs.map (ztr E)) (n := M.2.2.1) (by rw [zargs_len]; exact hn)
  rw [lg_entry_eq]
  have hw := h p e s m _ below meth c ⟨B.exec, B.bytes, B.returns, B.notSynchronized, hml, findClass_of_methodNamed B.named, fun w hw => hts w (List.mem_cons_of_mem _ hw), hSK, (name_of_methodNamed B.named B.method).1, List.eq_nil_iff_forall_not_mem.mpr (fun x hx => htb x hx), hSX⟩ s.heap [] _ hR (by
    show lv_has _ _ (zenc E 0 _)
    rw [zenc_pad, zargs_enc]
    exact hl) (fun _ q => by cases q) (Nat.le_refl _) (Nat.le_refl _)
  dsimp only at hw
  rw [show (zRm d mc ms).cells - mc = 0 from Nat.sub_self _, show (zRm d mc ms).slots - ms = 0 from Nat.sub_self _] at hw
  exact hw
theorem zCX_of {E : zE} {d : Nat} {M : zM} {vs : List Value} {σ : zS} {mc ms : Nat} {Q : zQ} (hp : plainName M.1.cls = true) (hn : (zargs vs).length ≤ M.2.2.1)
    (h : ∀ tb, zGy E M tb (zRm d mc ms) (zZq E Q mc ms) 0 (zIni vs M.2.2.1, [], σ, mc, ms)) : zCX E d M vs σ mc ms Q := by
  refine Met.ofW (cc := M.2.1) (maxL := M.2.2.1) (ret := M.2.2.2) hp rfl ?_
  intro p e s m args below meth c s₁ B hml hv
  obtain ⟨rfl, hR, hSK, hSX⟩ := hv
  have hts := atoms_spec (ws := zW M) B.pre
  have hl := lv_entry (vs.map (ztr E)) (n := M.2.2.1) (by rw [zargs_len]; exact hn)
  rw [lg_entry_eq]
  have hw := h _ p e s m _ below meth c ⟨B.exec, B.bytes, B.returns, B.notSynchronized, hml, findClass_of_methodNamed B.named, fun w hw => hts w (List.mem_cons_of_mem _ hw), hSK, (name_of_methodNamed B.named B.method).1, rfl, hSX⟩ s.heap [] _ hR (by
    show lv_has _ _ (zenc E 0 _)
    rw [zenc_pad, zargs_enc]
    exact hl) (fun _ q => by cases q) (Nat.le_refl _) (Nat.le_refl _)
  dsimp only at hw
  rw [show (zRm d mc ms).cells - mc = 0 from Nat.sub_self _, show (zRm d mc ms).slots - ms = 0 from Nat.sub_self _] at hw
  exact hw
theorem zCW_of {E : zE} {d : Nat} {M : zM} {hh : List (Nat × Nat × Nat × Nat)} {vs : List Value} {σ : zS} {mc ms : Nat} {Q : zQ} (hp : plainName M.1.cls = true) (hn : (zargs vs).length ≤ M.2.2.1)
    (h : zGy E M (tableOf hh) (zRm d mc ms) (zZq E Q mc ms) 0 (zIni vs M.2.2.1, [], σ, mc, ms)) : zCW E d M hh vs σ mc ms Q := by
  show MetFree (eL E) M.1 (headSpec (zWT M hh) (zRm d mc ms)) (zPx E σ vs) (fun _ _ _ _ _ => True) (fun a st o t => zQc E Q a st o t ∧ ∃ L, FrameEnd st o t L mc ms ∧ ∀ q ∈ L, zFr E q.base)
  refine MetFree.of_bodyS (code := M.2.1) (maxLocals := M.2.2.1) (ret := M.2.2.2) hp ?_ ?_
  · intro args s m h hn
    obtain ⟨m9, meth, c, hn9, h1, h2, h3, h4, -, h5, h6, -⟩ := Cond.codeWith_spec (atoms_spec (ws := zWT M hh) h _ List.mem_cons_self)
    cases hn.symm.trans hn9
    exact ⟨meth, c, h1, h2, h3, h4, h5, h6⟩
  · intro p e s m args below meth c s₁ B hml hv _
    have hh0 : s₁.heap = s.heap := by rw [B.state]; rfl
    obtain ⟨rfl, hR, hSK, hSX⟩ := hv
    have hts := atoms_spec (ws := zWT M hh) B.pre
    have htab := vx_table (x := M.1) (y := M.1) B (hts _ List.mem_cons_self)
    have hl := lv_entry (vs.map (ztr E)) (n := M.2.2.1) (by rw [zargs_len]; exact hn)
    have hw := h p e s m _ below meth c ⟨B.exec, B.bytes, B.returns, B.notSynchronized, hml, findClass_of_methodNamed B.named, fun w hw => hts w (List.mem_cons_of_mem _ hw), hSK, (name_of_methodNamed B.named B.method).1, htab, hSX⟩ s.heap [] _ hR (by
      show lv_has _ _ (zenc E 0 _)
      rw [zenc_pad, zargs_enc]
      exact hl) (fun _ q => by cases q) (Nat.le_refl _) (Nat.le_refl _)
    dsimp only at hw
    rw [show (zRm d mc ms).cells - mc = 0 from Nat.sub_self _, show (zRm d mc ms).slots - ms = 0 from Nat.sub_self _] at hw
    have hw2 : W p (eL E) e (zRm d mc ms) s m (vs.map (ztr E)).toArray below meth c s.heap [] 0 0 (zZq E Q mc ms below (vs.map (ztr E)).toArray s) (entryFrame m (vs.map (ztr E)).toArray M.2.2.1) := by
      rw [lg_entry_eq]
      exact hw
    obtain ⟨t, a1, o, b1, b2, b3⟩ := hw2 s₁ hh0 (Stand.of_body B)
    exact ⟨t, o, a1, b1, b2, b3⟩
theorem y_iretx {M : zM} {tb : List ExceptionTableEntry} {E : zE} {d pc mc ms bc bs : Nat} {Q : zQ} {XQ : Nat → zS → Prop} {ls : List (Option Value)} {σ : zS} {x : Int32} (hd : decode M.2.1 pc = .ok (.ireturn, 1)) (hr9 : M.2.2.2 = some .int) (h : Q (some (.int x)) σ) : zGy E M tb (zRm d mc ms) (zZx E Q XQ mc ms) pc (ls, [.int x], σ, bc, bs) := by
  intro p e s m args below meth cd X H locs A hR hL hF h1 h2
  have hx := X.1
  have hb := X.2.1
  have hr := X.2.2.1
  have hlk := X.2.2.2.1
  dsimp only at h1 h2 ⊢
  refine W.widen (k := mc) (n := ms) (Nat.sub_le _ _) (Nat.sub_le _ _) ?_
  refine vx_ret ?_
  exact W.iret (v := x) hx hb (hr.trans hr9) (fun t ht hW => ⟨(some (.int x)), σ, rfl, h, by rw [ht]; exact hR⟩) hF hd hlk
theorem y_lretx {M : zM} {tb : List ExceptionTableEntry} {E : zE} {d pc mc ms bc bs : Nat} {Q : zQ} {XQ : Nat → zS → Prop} {ls : List (Option Value)} {σ : zS} {x : Int64} (hd : decode M.2.1 pc = .ok (.lreturn, 1)) (hr9 : M.2.2.2 = some .long) (h : Q (some (.long x)) σ) : zGy E M tb (zRm d mc ms) (zZx E Q XQ mc ms) pc (ls, [.long x], σ, bc, bs) := by
  intro p e s m args below meth cd X H locs A hR hL hF h1 h2
  have hx := X.1
  have hb := X.2.1
  have hr := X.2.2.1
  have hlk := X.2.2.2.1
  dsimp only at h1 h2 ⊢
  refine W.widen (k := mc) (n := ms) (Nat.sub_le _ _) (Nat.sub_le _ _) ?_
  refine vx_ret ?_
  exact W.lret (v := x) hx hb (hr.trans hr9) (fun t ht hW => ⟨(some (.long x)), σ, rfl, h, by rw [ht]; exact hR⟩) hF hd hlk
theorem y_vretx {M : zM} {tb : List ExceptionTableEntry} {E : zE} {d pc mc ms bc bs : Nat} {Q : zQ} {XQ : Nat → zS → Prop} {ls : List (Option Value)} {σ : zS} (hd : decode M.2.1 pc = .ok (.return_, 1)) (hr9 : M.2.2.2 = none) (h : Q none σ) : zGy E M tb (zRm d mc ms) (zZx E Q XQ mc ms) pc (ls, [], σ, bc, bs) := by
  intro p e s m args below meth cd X H locs A hR hL hF h1 h2
  have hx := X.1
  have hb := X.2.1
  have hr := X.2.2.1
  have hlk := X.2.2.2.1
  dsimp only at h1 h2 ⊢
  refine W.widen (k := mc) (n := ms) (Nat.sub_le _ _) (Nat.sub_le _ _) ?_
  refine vx_ret ?_
  exact W.vret hx hb (hr.trans hr9) (fun t ht hW => ⟨none, σ, rfl, h, by rw [ht]; exact hR⟩) hF hd hlk
theorem y_iretq {M : zM} {tb : List ExceptionTableEntry} {E : zE} {d pc mc ms bc bs : Nat} {Q : zQ} {ls : List (Option Value)} {σ : zS} {x : Int32} (hd : decode M.2.1 pc = .ok (.ireturn, 1)) (hr9 : M.2.2.2 = some .int) (h : Q (some (.int x)) σ) : zGy E M tb (zRm d mc ms) (zZq E Q mc ms) pc (ls, [.int x], σ, bc, bs) := by
  intro p e s m args below meth cd X H locs A hR hL hF h1 h2
  have hx := X.1
  have hb := X.2.1
  have hr := X.2.2.1
  have hlk := X.2.2.2.1
  dsimp only at h1 h2 ⊢
  refine W.widen (k := mc) (n := ms) (Nat.sub_le _ _) (Nat.sub_le _ _) ?_
  exact W.iret (v := x) hx hb (hr.trans hr9) (fun t ht hW => ⟨(some (.int x)), σ, rfl, h, by rw [ht]; exact hR⟩) hF hd hlk
theorem y_lretq {M : zM} {tb : List ExceptionTableEntry} {E : zE} {d pc mc ms bc bs : Nat} {Q : zQ} {ls : List (Option Value)} {σ : zS} {x : Int64} (hd : decode M.2.1 pc = .ok (.lreturn, 1)) (hr9 : M.2.2.2 = some .long) (h : Q (some (.long x)) σ) : zGy E M tb (zRm d mc ms) (zZq E Q mc ms) pc (ls, [.long x], σ, bc, bs) := by
  intro p e s m args below meth cd X H locs A hR hL hF h1 h2
  have hx := X.1
  have hb := X.2.1
  have hr := X.2.2.1
  have hlk := X.2.2.2.1
  dsimp only at h1 h2 ⊢
  refine W.widen (k := mc) (n := ms) (Nat.sub_le _ _) (Nat.sub_le _ _) ?_
  exact W.lret (v := x) hx hb (hr.trans hr9) (fun t ht hW => ⟨(some (.long x)), σ, rfl, h, by rw [ht]; exact hR⟩) hF hd hlk
theorem y_vretq {M : zM} {tb : List ExceptionTableEntry} {E : zE} {d pc mc ms bc bs : Nat} {Q : zQ} {ls : List (Option Value)} {σ : zS} (hd : decode M.2.1 pc = .ok (.return_, 1)) (hr9 : M.2.2.2 = none) (h : Q none σ) : zGy E M tb (zRm d mc ms) (zZq E Q mc ms) pc (ls, [], σ, bc, bs) := by
  intro p e s m args below meth cd X H locs A hR hL hF h1 h2
  have hx := X.1
  have hb := X.2.1
  have hr := X.2.2.1
  have hlk := X.2.2.2.1
  dsimp only at h1 h2 ⊢
  refine W.widen (k := mc) (n := ms) (Nat.sub_le _ _) (Nat.sub_le _ _) ?_
  exact W.vret hx hb (hr.trans hr9) (fun t ht hW => ⟨none, σ, rfl, h, by rw [ht]; exact hR⟩) hF hd hlk
/-- throw new C(text) -/
theorem y_throw {M : zM} {E : zE} {d pc ik is ic ci mc ms bc bs : Nat} {C text : String} {Q : zQ} {XQ : Nat → zS → Prop} {ls : List (Option Value)} {st : List Value} {σ : zS} (hci : 13 ≤ ci) (hC : zExs[ci - 13]? = some C) (hfit : Bundle.fit C = true)
    (d0 : decode M.2.1 pc = .ok (.new ik, 3)) (d3 : decode M.2.1 (pc + 3) = .ok (.dup, 1)) (d4 : decode M.2.1 (pc + 4) = .ok (.ldc is, 2)) (d6 : decode M.2.1 (pc + 6) = .ok (.invokespecial ic, 3)) (d9 : decode M.2.1 (pc + 9) = .ok (.athrow, 1))
    (hk : Cond.classLink M.1.cls ik C ∈ zTb) (hini : Cond.initialized C ∈ zTb) (hstr : (M.1.cls, is, text) ∈ zStrs) (hat : ∀ w ∈ (vx_atS M.1.cls ic C ["java/lang/RuntimeException", "java/lang/Exception"]).filter goodWord, w ∈ zTb)
    (hbad : ∀ w ∈ (vx_atS M.1.cls ic C ["java/lang/RuntimeException", "java/lang/Exception"]).filter (fun w => !goodWord w), w ∈ [Cond.declares (Bundle.initS "java/lang/RuntimeException"), Cond.declares (Bundle.initS "java/lang/Exception"), Cond.declares (Bundle.initS "java/lang/Throwable"), Cond.castable C C])
    (hgood : ∀ w ∈ Cond.classLink M.1.cls ik C :: Cond.initialized C :: vx_atS M.1.cls ic C ["java/lang/RuntimeException", "java/lang/Exception"], vx_ot w = true) (h6 : 6 ≤ d) (hst : zcat st ≤ 8) (h1c : 1 ≤ bc) (h6s : 6 ≤ bs) (hXQ : XQ ci (zNew σ (ci, 0))) : zGy E M [] (zRm d mc ms) (zZx E Q XQ mc ms) pc (ls, st, σ, bc, bs) := by
  intro p e s m args below meth cd X H locs A hR hL hF h1 h2
  have hx := X.1
  have hb := X.2.1
  have hlk := X.2.2.2.1
  have hml := X.2.2.2.2.1
  have hown := X.2.2.2.2.2.1
  have hts := X.2.2.2.2.2.2.1
  have hSK := X.2.2.2.2.2.2.2.1
  have htab := X.2.2.2.2.2.2.2.2.2.1
  have hSX := X.2.2.2.2.2.2.2.2.2.2
  obtain ⟨sa, hsa⟩ := hSX.2.2.2.1 _ hstr
  have hC9 : C ∈ zExs := List.mem_of_getElem? hC
  have hci2 : ci < 16 := by
    have := (List.getElem?_eq_some_iff.mp hC).1
    have e3 : zExs.length = 3 := rfl
    omega
  have hA : ∀ w ∈ vx_atS M.1.cls ic C ["java/lang/RuntimeException", "java/lang/Exception"], w.before args s = true := vx_hat (fun w hw => hts w (hat w hw)) hbad (vx_c (va_Nw.use rfl (hSX.2.2.2.2.1 _ (by decide))) (vx_c (va_Nw.use rfl (hSX.2.2.2.2.1 _ (by decide))) (vx_c (va_Nw.use rfl (hSX.2.2.2.2.1 _ (by decide))) (vx_c (va_Nw.use rfl (hSX.2.2.2.2.2.1 _ hC9)) vx_n))))
  have kept : ∀ a : Nat, a < (eH E).size → ¬ eB E ≤ a → H[a]? = (eH E)[a]? := fun a _ ha => hR.2.2.2.1 a (by omega)
  have hcat : ((st.map (ztr E)).map fun v => v.category).sum ≤ 8 := by rw [zcat_eq]; exact hst
  dsimp only at h1 h2 ⊢
  have h1' : bc ≤ mc := h1
  have h2' : bs ≤ ms := h2
  refine vx_throwZ (A := fun q => eB E ≤ q) (names := ["java/lang/RuntimeException", "java/lang/Exception"]) hx hb hSX.1 hown hfit (by decide +kernel) (hts _ hk) (hts _ hini) hsa hA hgood (vx_Zq.kept hSX.2.1 kept) (vx_Zq.kept hSX.2.2.1 kept) (hL.1.trans hml.symm) d0 d3 d4 d6 d9 (fun x hx9 => by rw [htab] at hx9; cases hx9) (by show 2 + 3 < d; omega) (by show _ + (13 * 3 + 43) ≤ 34 * d; omega) (by show mc - bc + 1 ≤ mc; omega) (by show ms - bs + 6 ≤ ms; omega) hlk (fun t hal hsz ho hcell => ?_) (fun z hz => hF z hz) (by show mc - bc + 1 ≤ mc; omega) (by show ms - bs + 6 ≤ ms; omega)
  refine ⟨ci, zNew σ (ci, 0), hci, hC, hXQ, hR.push (by show ci < 21; omega) hsz ho ?_⟩
  obtain ⟨ce, c1, c2, c3⟩ := hcell
  rw [zent_obj zNew_kind (by omega), ← hR.size]
  have hr : zCl[ci]? = some (C, zT0, 0) := by
    have e13 : (zCl.drop 13)[ci - 13]? = zCl[ci]? := by rw [List.getElem?_drop]; congr 1; omega
    rw [← e13]
    have z : ci - 13 = 0 ∨ ci - 13 = 1 ∨ ci - 13 = 2 := by omega
    rcases z with z | z | z <;> (rw [z] at hC ⊢; cases hC; rfl)
  refine ⟨_, hr, ce, c1, ?_, c2, fun k hk9 => absurd hk9 (Nat.not_lt_zero k)⟩
  have := (hSK.1.1 ci _ hr).2.1
  exact Option.some.inj (c3.symm.trans this)
/-- throw new C(text) -/
theorem y_throww {M : zM} {E : zE} {d pc ik is ic ci mc ms bc bs : Nat} {C text : String} {Q : zQ} {XQ : Nat → zS → Prop} {ls : List (Option Value)} {st : List Value} {σ : zS} (hci : 13 ≤ ci) (hC : zExs[ci - 13]? = some C) (hfit : Bundle.fit C = true)
    (d0 : decode M.2.1 pc = .ok (.new ik, 3)) (d3 : decode M.2.1 (pc + 3) = .ok (.dup, 1)) (d4 : decode M.2.1 (pc + 4) = .ok (.ldc_w is, 3)) (d6 : decode M.2.1 (pc + 7) = .ok (.invokespecial ic, 3)) (d9 : decode M.2.1 (pc + 10) = .ok (.athrow, 1))
    (hk : Cond.classLink M.1.cls ik C ∈ zTb) (hini : Cond.initialized C ∈ zTb) (hstr : (M.1.cls, is, text) ∈ zStrs) (hat : ∀ w ∈ (vx_atS M.1.cls ic C ["java/lang/RuntimeException", "java/lang/Exception"]).filter goodWord, w ∈ zTb)
    (hbad : ∀ w ∈ (vx_atS M.1.cls ic C ["java/lang/RuntimeException", "java/lang/Exception"]).filter (fun w => !goodWord w), w ∈ [Cond.declares (Bundle.initS "java/lang/RuntimeException"), Cond.declares (Bundle.initS "java/lang/Exception"), Cond.declares (Bundle.initS "java/lang/Throwable"), Cond.castable C C])
    (hgood : ∀ w ∈ Cond.classLink M.1.cls ik C :: Cond.initialized C :: vx_atS M.1.cls ic C ["java/lang/RuntimeException", "java/lang/Exception"], vx_ot w = true) (h6 : 6 ≤ d) (hst : zcat st ≤ 8) (h1c : 1 ≤ bc) (h6s : 6 ≤ bs) (hXQ : XQ ci (zNew σ (ci, 0))) : zGy E M [] (zRm d mc ms) (zZx E Q XQ mc ms) pc (ls, st, σ, bc, bs) := by
  intro p e s m args below meth cd X H locs A hR hL hF h1 h2
  have hx := X.1
  have hb := X.2.1
  have hlk := X.2.2.2.1
  have hml := X.2.2.2.2.1
  have hown := X.2.2.2.2.2.1
  have hts := X.2.2.2.2.2.2.1
  have hSK := X.2.2.2.2.2.2.2.1
  have htab := X.2.2.2.2.2.2.2.2.2.1
  have hSX := X.2.2.2.2.2.2.2.2.2.2
  obtain ⟨sa, hsa⟩ := hSX.2.2.2.1 _ hstr
  have hC9 : C ∈ zExs := List.mem_of_getElem? hC
  have hci2 : ci < 16 := by
    have := (List.getElem?_eq_some_iff.mp hC).1
    have e3 : zExs.length = 3 := rfl
    omega
  have hA : ∀ w ∈ vx_atS M.1.cls ic C ["java/lang/RuntimeException", "java/lang/Exception"], w.before args s = true := vx_hat (fun w hw => hts w (hat w hw)) hbad (vx_c (va_Nw.use rfl (hSX.2.2.2.2.1 _ (by decide))) (vx_c (va_Nw.use rfl (hSX.2.2.2.2.1 _ (by decide))) (vx_c (va_Nw.use rfl (hSX.2.2.2.2.1 _ (by decide))) (vx_c (va_Nw.use rfl (hSX.2.2.2.2.2.1 _ hC9)) vx_n))))
  have kept : ∀ a : Nat, a < (eH E).size → ¬ eB E ≤ a → H[a]? = (eH E)[a]? := fun a _ ha => hR.2.2.2.1 a (by omega)
  have hcat : ((st.map (ztr E)).map fun v => v.category).sum ≤ 8 := by rw [zcat_eq]; exact hst
  dsimp only at h1 h2 ⊢
  have h1' : bc ≤ mc := h1
  have h2' : bs ≤ ms := h2
  refine vx_throwZW (A := fun q => eB E ≤ q) (names := ["java/lang/RuntimeException", "java/lang/Exception"]) hx hb hSX.1 hown hfit (by decide +kernel) (hts _ hk) (hts _ hini) hsa hA hgood (vx_Zq.kept hSX.2.1 kept) (vx_Zq.kept hSX.2.2.1 kept) (hL.1.trans hml.symm) d0 d3 d4 d6 d9 (fun x hx9 => by rw [htab] at hx9; cases hx9) (by show 2 + 3 < d; omega) (by show _ + (13 * 3 + 43) ≤ 34 * d; omega) (by show mc - bc + 1 ≤ mc; omega) (by show ms - bs + 6 ≤ ms; omega) hlk (fun t hal hsz ho hcell => ?_) (fun z hz => hF z hz) (by show mc - bc + 1 ≤ mc; omega) (by show ms - bs + 6 ≤ ms; omega)
  refine ⟨ci, zNew σ (ci, 0), hci, hC, hXQ, hR.push (by show ci < 21; omega) hsz ho ?_⟩
  obtain ⟨ce, c1, c2, c3⟩ := hcell
  rw [zent_obj zNew_kind (by omega), ← hR.size]
  have hr : zCl[ci]? = some (C, zT0, 0) := by
    have e13 : (zCl.drop 13)[ci - 13]? = zCl[ci]? := by rw [List.getElem?_drop]; congr 1; omega
    rw [← e13]
    have z : ci - 13 = 0 ∨ ci - 13 = 1 ∨ ci - 13 = 2 := by omega
    rcases z with z | z | z <;> (rw [z] at hC ⊢; cases hC; rfl)
  refine ⟨_, hr, ce, c1, ?_, c2, fun k hk9 => absurd hk9 (Nat.not_lt_zero k)⟩
  have := (hSK.1.1 ci _ hr).2.1
  exact Option.some.inj (c3.symm.trans this)
