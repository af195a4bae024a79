/-! calls that may throw, and catching; calls of methods with a table -/
theorem zafterX {E : zE} {Q' : zQ} {XQ' : Nat → zS → Prop} {mc' ms' : Nat} {p : Program} {e : Env} {R : Room} {s : State} {m : MethodId} {args a : Array Value} {below : List Frame} {meth : Method} {cd : Code} {H : Heap} {locs : List Loc} {cells slots pc : Nat} {Qf : State → Prop} {A : Array Slot} {st0 rest : List Value}
    (hr : vx_Run p (eL E) e R s m args below meth cd H locs cells slots mc' ms' (F0 m pc A st0) (rest.map (ztr E)) (zQc E Q' a) (zXC E XQ') (zFr E)) (hF : ∀ q ∈ locs, eB E ≤ q.base)
    (kk : ∀ (r : Option Value) (σ' : zS) (H1 : Heap) (locs1 : List Loc), Q' r σ' → zRel E σ' H1 → (∀ q ∈ locs1, eB E ≤ q.base) → W p (eL E) e R s m args below meth cd H1 locs1 (cells + mc') (slots + ms') Qf (F0 m (pc + 3) A ((zpush r rest).map (ztr E))))
    (kx : ∀ (ci : Nat) (C : String) (ce : Cell) (q9 : Addr) (σ' : zS) (H1 : Heap) (locs1 : List Loc), 13 ≤ ci → zExs[ci - 13]? = some C → XQ' ci σ' → zRel E σ' H1 → (∀ q ∈ locs1, eB E ≤ q.base) → H1[q9]? = some ce → ce.vm = .none → s.vm.findClass C = some ce.cls → vx_W p (eL E) e R s m args below meth cd H1 locs1 (cells + mc') (slots + ms') Qf (F0 m pc A (rest.map (ztr E))) q9) : W p (eL E) e R s m args below meth cd H locs cells slots Qf (F0 m pc A st0) := by
  intro T hT X
  rcases hr T hT X with ⟨v, st₀, t, T', L, h0, X', hL, e1, e2, ⟨r, σ', hv, hq, hR⟩, st⟩ | ⟨q, st₀, t, T', L, C, ce, h0, X', hL, e1, e2, ⟨ci, σ', c1, c2, c3, c4⟩, hce, hcv, hcl, st⟩
  · cases hv
    obtain ⟨t2, a1, b1⟩ := kk r σ' T'.heap (locs ++ L) hq (by rw [e1]; exact hR) (fun q hq => by
      rcases List.mem_append.mp hq with z | z
      · exact hF q z
      · exact hL q z) T' rfl X'
    refine ⟨t2, st t2 ?_, b1⟩
    cases r with
    | none => exact a1
    | some v => exact a1
  · obtain ⟨t2, a1, b1⟩ := kx ci C ce q σ' T'.heap (locs ++ L) c1 c2 c3 (by rw [e1]; exact c4) (fun q hq => by
      rcases List.mem_append.mp hq with z | z
      · exact hF q z
      · exact hL q z) (by rw [e1]; exact hce) hcv hcl T' rfl X'
    exact ⟨t2, st.trans a1, b1⟩
/-- the handler for C at pc -/
def zHd (M : zM) (tb : List ExceptionTableEntry) (pc : Nat) (C : String) (hp : Nat) : Prop := ∃ (pre : List ExceptionTableEntry) (x : ExceptionTableEntry) (suf : List ExceptionTableEntry), tb = pre ++ x :: suf ∧ (∀ z ∈ pre, covers z pc = false ∨ (z.catchType ≠ 0 ∧ ∃ D ∈ zExs, C ≠ D ∧ Cond.classLink M.1.cls z.catchType D ∈ zTb)) ∧ covers x pc = true ∧ x.catchType ≠ 0 ∧ Cond.classLink M.1.cls x.catchType C ∈ zTb ∧ x.handlerPc = hp
/-- .. which lays what it caught into the local k, that is read no more -/
def zAst (E : zE) (M : zM) (hp nx : Nat) (ls : List (Option Value)) : Prop := ∃ k : Nat, ((∃ k9 : Fin 4, (k9 : Nat) = k ∧ decode M.2.1 hp = .ok (.astore_n k9, 1) ∧ nx = hp + 1) ∨ (decode M.2.1 hp = .ok (.astore k, 2) ∧ nx = hp + 2)) ∧ k < M.2.2.1 ∧ (zenc E 0 ls).filter (fun q => !(q.1 == k) && !(q.1 + 1 == k && q.2.category == 2)) = zenc E 0 ls
theorem zcatch {E : zE} {M : zM} {tb : List ExceptionTableEntry} {R : Room} {Z : zEd} {pc hp nx : Nat} {C : String} {ls : List (Option Value)} {σ : zS} {bc bs : Nat} {rest : List Value} {p : Program} {e : Env} {s : State} {m : MethodId} {args : Array Value} {below : List Frame} {meth : Method} {cd : Code} {H : Heap} {locs : List Loc} {A : Array Slot} {ce : Cell} {q9 : Addr}
    (X : zCy E M tb p s m args meth cd) (hC : C ∈ zExs) (hh : zHd M tb pc C hp) (ha : zAst E M hp nx ls) (hk : zGy E M tb R Z nx (ls, [], σ, bc, bs)) (hR : zRel E σ H) (hL : zLs E M.2.2.1 ls A) (hF : ∀ q ∈ locs, eB E ≤ q.base) (h1 : bc ≤ R.cells) (h2 : bs ≤ R.slots) (hce : H[q9]? = some ce) (hcv : ce.vm = .none) (hcl : s.vm.findClass C = some ce.cls) :
    vx_W p (eL E) e R s m args below meth cd H locs (R.cells - bc) (R.slots - bs) (Z below args s) (F0 m pc A rest) q9 := by
  have hx := X.1
  have hb := X.2.1
  have hown := X.2.2.2.2.2.1
  have hts := X.2.2.2.2.2.2.1
  have htab := X.2.2.2.2.2.2.2.2.2.1
  have hSX := X.2.2.2.2.2.2.2.2.2.2
  obtain ⟨pre, x, suf, g1, g2, g3, g4, g5, rfl⟩ := hh
  refine vx_catch (name := C) (E := C) hown pre x suf (htab.trans g1) (fun z hz => ?_) g3 g4 (hts _ g5) (va_Nw.use rfl (hSX.2.2.2.2.2.1 _ hC)) hce hcv hcl ?_
  · rcases g2 z hz with y | ⟨y1, D, y2, y3, y4⟩
    · exact Or.inl y
    · exact Or.inr ⟨y1, D, hts _ y4, hSX.2.2.2.2.2.2 C hC D y2 y3⟩
  · obtain ⟨k, hd, hn, hf⟩ := ha
    have go : ∀ A9 : Array Slot, lv_has A9 M.2.2.1 ((k, Value.ref q9) :: (zenc E 0 ls).filter (fun q => !(q.1 == k) && !(q.1 + 1 == k && q.2.category == 2))) → W p (eL E) e R s m args below meth cd H locs (R.cells - bc) (R.slots - bs) (Z below args s) (F0 m nx A9 []) := fun A9 h9 => by
      rw [hf] at h9
      exact hk p e s m args below meth cd X H locs A9 hR ⟨h9.1, h9.2.1, fun q hq => h9.2.2 q (List.mem_cons_of_mem _ hq)⟩ hF h1 h2
    rcases hd with ⟨k9, e9, hd, rfl⟩ | ⟨hd, rfl⟩
    · exact lv_astore_n hx hb hd e9 hL hn rfl go
    · exact lv_astore hx hb hd hL hn rfl go
theorem y_callX {E : zE} {M : zM} {tb : List ExceptionTableEntry} {R : Room} {Z : zEd} {pc idx na n c L d' mc' ms' : Nat} {M' : zM} {ls : List (Option Value)} {st as rest : List Value} {σ : zS} {bc bs : Nat} {Q' : zQ} {XQ' : Nat → zS → Prop} (hr1 : d' + 1 ≤ R.frames) (hr2 : 34 * (d' + 1) ≤ R.locals) (hd : decode M.2.1 pc = .ok (.invokevirtual idx, 3)) (hvt : zVT M idx na (c, M')) (hq : zk σ n = (c, L)) (hp : zpop na [] st = some (as, .ref n :: rest)) (hc8 : Nat.ble (zcat rest) 8 = true) (hM : zXT E d' M' (.ref n :: as) σ mc' ms' Q' XQ') (g1 : mc' ≤ bc) (g2 : ms' ≤ bs)
    (hk : ∀ r σ', Q' r σ' → zGy E M tb R Z (pc + 3) (ls, zpush r rest, σ', bc - mc', bs - ms'))
    (hx9 : ∀ ci σ' C, 13 ≤ ci → zExs[ci - 13]? = some C → XQ' ci σ' → ∃ hp nx, zHd M tb pc C hp ∧ zAst E M hp nx ls ∧ zGy E M tb R Z nx (ls, [], σ', bc - mc', bs - ms')) : zGy E M tb R Z pc (ls, st, σ, bc, bs) := by
  intro p e s m args below meth cd X H locs A hR hL hF h1 h2
  have hx := X.1
  have hb := X.2.1
  have hts := X.2.2.2.2.2.2.1
  have hown := X.2.2.2.2.2.1
  have hSK := X.2.2.2.2.2.2.2.1
  have hSX := X.2.2.2.2.2.2.2.2.2.2
  obtain ⟨C, T, N, c1, c2, hc, hv⟩ := hvt
  obtain ⟨pre, rfl, e2, rfl⟩ := zpop_spec hp
  dsimp only at c1 c2 hc hv h1 h2 hR hL ⊢
  have hcat : ((rest.map (ztr E)).map fun v => v.category).sum ≤ 8 := by rw [zcat_eq]; exact zle hc8
  have hls : A.size = M.2.2.1 := hL.1
  have hrv := zrecv hR hSK hq c2 c1
  have kk : ∀ (r : Option Value) (σ' : zS) (H1 : Heap) (locs1 : List Loc), Q' r σ' → zRel E σ' H1 → (∀ q ∈ locs1, eB E ≤ q.base) → W p (eL E) e R s m args below meth cd H1 locs1 (R.cells - bc + mc') (R.slots - bs + ms') (Z below args s) (F0 m (pc + 3) A ((zpush r rest).map (ztr E))) := fun r σ' H1 locs1 hq hR1 hF1 => by
    have hw := hk r σ' hq p e s m args below meth cd X H1 locs1 A hR1 hL hF1 (by show bc - mc' ≤ R.cells; omega) (by show bs - ms' ≤ R.slots; omega)
    dsimp only at hw
    rw [zsub3 g1 h1, zsub3 g2 h2]
    exact hw
  have kx : ∀ (ci : Nat) (C : String) (ce : Cell) (q9 : Addr) (σ' : zS) (H1 : Heap) (locs1 : List Loc), 13 ≤ ci → zExs[ci - 13]? = some C → XQ' ci σ' → zRel E σ' H1 → (∀ q ∈ locs1, eB E ≤ q.base) → H1[q9]? = some ce → ce.vm = .none → s.vm.findClass C = some ce.cls → vx_W p (eL E) e R s m args below meth cd H1 locs1 (R.cells - bc + mc') (R.slots - bs + ms') (Z below args s) (F0 m pc A (rest.map (ztr E))) q9 := fun ci C ce q9 σ' H1 locs1 y1 y2 y3 y4 y5 y6 y7 y8 => by
    obtain ⟨hp9, nx, z1, z2, z3⟩ := hx9 ci σ' C y1 y2 y3
    rw [zsub3 g1 h1, zsub3 g2 h2]
    exact zcatch X (List.mem_of_getElem? y2) z1 z2 z3 y4 hL y5 (by omega) (by omega) y6 y7 y8
  rcases hv with ⟨hC, hw9⟩ | ⟨owner, x, hyx, ho, hw9⟩ | ⟨owner, x, b0, m0, r0, hyx, ho, h0, hw9⟩
  · exact zafterX (rest := rest) ((vx_runV (C := C) (As := (pre.reverse ++ []).map (ztr E)) (b := zad E n) ⟨hx, hb, X.2.2.2.2.1, hown, hts⟩ hM (cwV (mc := mc') (ms := ms') na hts (zGoodMy hc.1 hw9) rfl rfl rfl ⟨hC, hc.2.2⟩ (zroomY hc.2.1 hr1 hr2)) ⟨zpx_blind, hrv, fun U hU hW => zpx_at rfl hR hSK hSX hU hW⟩ rfl (zlen9 e2) hls zstk (lv_room hcat) hd ⟨zfits g1 h1, zfits g2 h2⟩)) hF kk kx
  · have hna : (parseMethodDescriptor x.desc).map (fun d => d.parameters.length) = some na := by
      have := hc.2.2.2.2
      rw [hyx] at this
      exact this
    exact zafterX (rest := rest) ((vx_runU (C := C) (owner := owner) (As := (pre.reverse ++ []).map (ztr E)) (b := zad E n) ⟨hx, hb, X.2.2.2.2.1, hown, hts⟩ hM (va_cwU (mc := mc') (ms := ms') na hts (zGoodMy hc.1 hw9) rfl rfl rfl hyx ⟨ho.1, ho.2, hna⟩ (zroomY hc.2.1 hr1 hr2)) ⟨zpx_blind, hrv, fun U hU hW => zpx_at rfl hR hSK hSX hU hW⟩ rfl (zlen9 e2) hls zstk (lv_room hcat) hd ⟨zfits g1 h1, zfits g2 h2⟩)) hF kk kx
  · have hna : (parseMethodDescriptor x.desc).map (fun d => d.parameters.length) = some na := by
      have := hc.2.2.2.2
      rw [hyx] at this
      exact this
    exact zafterX (rest := rest) ((vx_runU (C := C) (owner := owner) (As := (pre.reverse ++ []).map (ztr E)) (b := zad E n) ⟨hx, hb, X.2.2.2.2.1, hown, hts⟩ hM (va_cwO (mc := mc') (ms := ms') na hts (zGoodMy hc.1 hw9) rfl rfl rfl h0 ⟨ho.1, ho.2, hna⟩ (zroomY hc.2.1 hr1 hr2)) ⟨zpx_blind, hrv, fun U hU hW => zpx_at rfl hR hSK hSX hU hW⟩ rfl (zlen9 e2) hls zstk (lv_room hcat) hd ⟨zfits g1 h1, zfits g2 h2⟩)) hF kk kx
theorem y_callVx {E : zE} {M : zM} {tb : List ExceptionTableEntry} {R : Room} {Z : zEd} {pc idx na n c L d' mc' ms' : Nat} {M' : zM} {ls : List (Option Value)} {st as rest : List Value} {σ : zS} {bc bs : Nat} {Q' : zQ} (hr1 : d' + 1 ≤ R.frames) (hr2 : 34 * (d' + 1) ≤ R.locals) (hd : decode M.2.1 pc = .ok (.invokevirtual idx, 3)) (hvt : zVT M idx na (c, M')) (hq : zk σ n = (c, L)) (hp : zpop na [] st = some (as, .ref n :: rest)) (hc8 : Nat.ble (zcat rest) 8 = true) (hM : zCX E d' M' (.ref n :: as) σ mc' ms' Q') (g1 : mc' ≤ bc) (g2 : ms' ≤ bs)
    (hk : ∀ r σ', Q' r σ' → zGy E M tb R Z (pc + 3) (ls, zpush r rest, σ', bc - mc', bs - ms')) : zGy E M tb R Z pc (ls, st, σ, bc, bs) := by
  intro p e s m args below meth cd X H locs A hR hL hF h1 h2
  have hx := X.1
  have hb := X.2.1
  have hts := X.2.2.2.2.2.2.1
  have hown := X.2.2.2.2.2.1
  have hSK := X.2.2.2.2.2.2.2.1
  have hSX := X.2.2.2.2.2.2.2.2.2.2
  obtain ⟨C, T, N, c1, c2, hc, hv⟩ := hvt
  obtain ⟨pre, rfl, e2, rfl⟩ := zpop_spec hp
  dsimp only at c1 c2 hc hv h1 h2 hR hL ⊢
  have hcat : ((rest.map (ztr E)).map fun v => v.category).sum ≤ 8 := by rw [zcat_eq]; exact zle hc8
  have hls : A.size = M.2.2.1 := hL.1
  have hrv := zrecv hR hSK hq c2 c1
  have kk : ∀ (r : Option Value) (σ' : zS) (H1 : Heap) (locs1 : List Loc), Q' r σ' → zRel E σ' H1 → (∀ q ∈ locs1, eB E ≤ q.base) → W p (eL E) e R s m args below meth cd H1 locs1 (R.cells - bc + mc') (R.slots - bs + ms') (Z below args s) (F0 m (pc + 3) A ((zpush r rest).map (ztr E))) := fun r σ' H1 locs1 hq hR1 hF1 => by
    have hw := hk r σ' hq p e s m args below meth cd X H1 locs1 A hR1 hL hF1 (by show bc - mc' ≤ R.cells; omega) (by show bs - ms' ≤ R.slots; omega)
    dsimp only at hw
    rw [zsub3 g1 h1, zsub3 g2 h2]
    exact hw
  have := hk
  rcases hv with ⟨hC, hw9⟩ | ⟨owner, x, hyx, ho, hw9⟩ | ⟨owner, x, b0, m0, r0, hyx, ho, h0, hw9⟩
  · exact zafter (rest := rest) ((va_runV (C := C) (As := (pre.reverse ++ []).map (ztr E)) (b := zad E n) ⟨hx, hb, X.2.2.2.2.1, hown, hts⟩ hM (cwV (mc := mc') (ms := ms') na hts (zGoodMy hc.1 hw9) rfl rfl rfl ⟨hC, hc.2.2⟩ (zroomY hc.2.1 hr1 hr2)) ⟨zpx_blind, hrv, fun U hU hW => zpx_at rfl hR hSK hSX hU hW⟩ rfl (zlen9 e2) hls zstk (lv_room hcat) hd ⟨zfits g1 h1, zfits g2 h2⟩)) hF kk
  · have hna : (parseMethodDescriptor x.desc).map (fun d => d.parameters.length) = some na := by
      have := hc.2.2.2.2
      rw [hyx] at this
      exact this
    exact zafter (rest := rest) ((va_runU (C := C) (owner := owner) (As := (pre.reverse ++ []).map (ztr E)) (b := zad E n) ⟨hx, hb, X.2.2.2.2.1, hown, hts⟩ hM (va_cwU (mc := mc') (ms := ms') na hts (zGoodMy hc.1 hw9) rfl rfl rfl hyx ⟨ho.1, ho.2, hna⟩ (zroomY hc.2.1 hr1 hr2)) ⟨zpx_blind, hrv, fun U hU hW => zpx_at rfl hR hSK hSX hU hW⟩ rfl (zlen9 e2) hls zstk (lv_room hcat) hd ⟨zfits g1 h1, zfits g2 h2⟩)) hF kk
  · have hna : (parseMethodDescriptor x.desc).map (fun d => d.parameters.length) = some na := by
      have := hc.2.2.2.2
      rw [hyx] at this
      exact this
    exact zafter (rest := rest) ((va_runU (C := C) (owner := owner) (As := (pre.reverse ++ []).map (ztr E)) (b := zad E n) ⟨hx, hb, X.2.2.2.2.1, hown, hts⟩ hM (va_cwO (mc := mc') (ms := ms') na hts (zGoodMy hc.1 hw9) rfl rfl rfl h0 ⟨ho.1, ho.2, hna⟩ (zroomY hc.2.1 hr1 hr2)) ⟨zpx_blind, hrv, fun U hU hW => zpx_at rfl hR hSK hSX hU hW⟩ rfl (zlen9 e2) hls zstk (lv_room hcat) hd ⟨zfits g1 h1, zfits g2 h2⟩)) hF kk
theorem zGoodW {M' : zM} {hh : List (Nat × Nat × Nat × Nat)} (h : Cond.codeWith M'.1 M'.2.1 M'.2.2.1 M'.2.2.2 hh ∈ zTb) {ws : List Cond} (hw : ∀ w ∈ ws, w ∈ zTb) : GoodIn zTb (ws ++ zWT M' hh) := zGoodIny fun w q => by
  rcases List.mem_append.mp q with q | q
  · exact hw w q
  · rcases List.mem_cons.mp q with q | q
    · rw [q]; exact h
    · exact q
/-- a static call of a method with a table -/
theorem y_callSW {E : zE} {M : zM} {tb : List ExceptionTableEntry} {R : Room} {Z : zEd} {pc idx na d' mc' ms' : Nat} {M' : zM} {hh : List (Nat × Nat × Nat × Nat)} {ls : List (Option Value)} {st as rest : List Value} {σ : zS} {bc bs : Nat} {Q' : zQ} (hr1 : d' + 1 ≤ R.frames) (hr2 : 34 * (d' + 1) ≤ R.locals) (hd : decode M.2.1 pc = .ok (.invokestatic idx, 3)) (hcw : Cond.codeWith M'.1 M'.2.1 M'.2.2.1 M'.2.2.2 hh ∈ zTb) (hl : M'.2.2.1 ≤ 15) (hmh : M'.1.cls ≠ "java/lang/invoke/MethodHandle" ∧ M'.1.cls ≠ "java/lang/invoke/VarHandle" ∧ (parseMethodDescriptor M'.1.desc).map (fun d => d.parameters.length) = some na) (hw9 : ∀ w ∈ ([.methodLink M.1.cls idx M'.1, .static M'.1, .initialized M'.1.cls] : List Cond), w ∈ zTb)
    (hp : zpop na [] st = some (as, rest)) (hc8 : Nat.ble (zcat rest) 8 = true) (hM : zCW E d' M' hh as σ mc' ms' Q') (g1 : mc' ≤ bc) (g2 : ms' ≤ bs)
    (hk : ∀ r σ', Q' r σ' → zGy E M tb R Z (pc + 3) (ls, zpush r rest, σ', bc - mc', bs - ms')) : zGy E M tb R Z pc (ls, st, σ, bc, bs) := by
  intro p e s m args below meth cd X H locs A hR hL hF h1 h2
  have hx := X.1
  have hb := X.2.1
  have hts := X.2.2.2.2.2.2.1
  have hown := X.2.2.2.2.2.1
  have hSK := X.2.2.2.2.2.2.2.1
  have hSX := X.2.2.2.2.2.2.2.2.2.2
  obtain ⟨pre, rfl, e2, rfl⟩ := zpop_spec hp
  dsimp only at h1 h2 hR hL ⊢
  have hcat : ((rest.map (ztr E)).map fun v => v.category).sum ≤ 8 := by rw [zcat_eq]; exact zle hc8
  have hls : A.size = M.2.2.1 := hL.1
  exact zafter (rest := rest) (vx_runSW (As := (pre.reverse ++ []).map (ztr E)) ⟨hx, hb, X.2.2.2.2.1, hown, hts⟩ hM (vx_cwSW (mc := mc') (ms := ms') na hts (zGoodW hcw hw9) rfl rfl rfl hmh (zroomY hl hr1 hr2)) ⟨zpx_blind, fun U hU hW => zpx_at rfl hR hSK hSX hU hW⟩ rfl (zlen9 e2) hls zstk (lv_room hcat) hd ⟨zfits g1 h1, zfits g2 h2⟩) hF (fun r σ' H1 locs1 hq hR1 hF1 => by
    have hw := hk r σ' hq p e s m args below meth cd X H1 locs1 A hR1 hL hF1 (by show bc - mc' ≤ R.cells; omega) (by show bs - ms' ≤ R.slots; omega)
    dsimp only at hw
    rw [zsub3 g1 h1, zsub3 g2 h2]
    exact hw)
