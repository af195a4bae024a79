theorem zNew_keep {E : zE} {σ : zS} {q : Nat × Nat} {n : Nat} (h : n < zn σ) : zent E (zNew σ q) n = zent E σ n := by
  have e : n ≠ zn σ := by omega
  refine zent_congr ?_ ?_ ?_ ?_
  · show (if n = zn σ then _ else _) = _; rw [if_neg e]
  · funext j; show (if n = zn σ then _ else _) = _; rw [if_neg e]
  · funext j; show (if n = zn σ then _ else _) = _; rw [if_neg e]
  · funext j; show (if n = zn σ then _ else _) = _; rw [if_neg e]
theorem zNew_kind {σ : zS} {q : Nat × Nat} : zk (zNew σ q) (zn σ) = q := by show (if zn σ = zn σ then _ else _) = _; rw [if_pos rfl]
theorem zRel.size {E : zE} {σ : zS} {H : Heap} (hR : zRel E σ H) : H.size = zad E (zn σ) := by rw [zad_own hR.1]; exact hR.2.1
/-- a cell comes -/
theorem zRel.push {E : zE} {σ : zS} {H H1 : Heap} {q : Nat × Nat} (hR : zRel E σ H) (hq : q.1 < 21) (hz : H1.size = H.size + 1) (ho : ∀ q : Nat, q < H.size → H1[q]? = H[q]?) (hat : va_at (eD E) zCl (zad E (zn σ), zent E (zNew σ q) (zn σ)) H1) : zRel E (zNew σ q) H1 := by
  have hn : zn (zNew σ q) = zn σ + 1 := rfl
  have h3 := hR.1
  have hsz := hR.2.1
  refine ⟨by omega, by rw [hz, hsz, hn]; omega, fun a ha hlt => ?_, fun q hq => ?_, fun a ha => ?_, fun a ha => ?_⟩
  · by_cases e : a = zn σ
    · subst e
      rw [zNew_kind]
      exact ⟨hq, hat⟩
    · have hlt' : a < zn σ := by omega
      rw [zNew_keep hlt']
      have hk : zk (zNew σ q) a = zk σ a := by show (if a = zn σ then _ else _) = _; rw [if_neg e]
      rw [hk]
      obtain ⟨g1, g2⟩ := hR.2.2.1 a ha hlt'
      exact ⟨g1, g2.kept (ho _ g2.lt)⟩
  · rw [ho q (by omega)]
    exact hR.2.2.2.1 q hq
  · have e : a ≠ zn σ := by omega
    have hk : zk (zNew σ q) a = zk σ a := by show (if a = zn σ then _ else _) = _; rw [if_neg e]
    have hi : ∀ j, zi (zNew σ q) a j = zi σ a j := fun j => by show (if a = zn σ then _ else _) = _; rw [if_neg e]
    rw [hk]
    exact ⟨(hR.2.2.2.2.1 a ha).1, fun j hj => by rw [hi]; exact (hR.2.2.2.2.1 a ha).2 j hj⟩
  · have e : a ≠ zn σ := by omega
    have hk : zk (zNew σ q) a = zk σ a := by show (if a = zn σ then _ else _) = _; rw [if_neg e]
    rw [hk]
    exact hR.2.2.2.2.2 a (by omega)
/-- what a new cell's fields hold -/
def zKD (ci N : Nat) (ty : Nat → FieldType) : Prop := ∀ k, k < N → ∀ b, (zFs ci)[k]? = some b → defaultValue (ty k) = match b with
  | true => .null
  | false => .int 0
theorem zbytes {N b : Nat} (hN : N ≤ 100000) (hb : b ≤ 8) : N * b ≤ 536870912 := Nat.le_trans (Nat.mul_le_mul hN hb) (by decide)
theorem zcells {mc bc : Nat} (h1 : 1 ≤ bc) (h2 : bc ≤ mc) : mc - bc + 1 = mc - (bc - 1) := by omega
theorem zslots {ms bs N : Nat} (h1 : N ≤ bs) (h2 : bs ≤ ms) : ms - bs + N = ms - (bs - N) := by omega
def oNew (ci N nx : Nat) : zOp := fun _ _ _ c K => 1 ≤ c.2.2.2.1 ∧ N ≤ c.2.2.2.2 ∧ K nx (c.1, .ref (zn c.2.2.1) :: c.2.1, zNew c.2.2.1 (ci, N), c.2.2.2.1 - 1, c.2.2.2.2 - N)
theorem snd_new {M : zM} {pc idx ci N : Nat} {C : String} {T : u_T} {ty : Nat → FieldType} (hd : decode M.2.1 pc = .ok (.new idx, 3)) (hKC : zKC ci C T N ty) (hKD : zKD ci N ty) (hw : Cond.classLink M.1.cls idx C ∈ zTb ∧ Cond.instantiable C N ∈ zTb ∧ Cond.initialized C ∈ zTb) : zSnd M pc (oNew ci N (pc + 3)) := by
  intro E d Q mc ms c K hK h p e s m args below meth cd X H locs A hR hL hF h1 h2
  obtain ⟨ls, st, σ, bc, bs⟩ := c
  have hx := X.1
  have hb := X.2.1
  have hts := X.2.2.2.2.2.2.1
  have hown := X.2.2.2.2.2.1
  have hSK := X.2.2.2.2.2.2.2.1
  obtain ⟨hc1, hs1, h⟩ := h
  dsimp only at hc1 hs1 h1 h2 ⊢
  obtain ⟨g1, g0, g2, g3, g4, g5⟩ := hKC
  have hKn := hSK.1.1 ci _ g1
  refine W.newcK hx hb hown (hts _ (zTb_in hw.1)) (hts _ (zTb_in hw.2.1)) (hts _ (zTb_in hw.2.2)) rfl hd (by show mc - bc + 1 ≤ mc; omega) (by show ms - bs + N ≤ ms; omega) hKn.2.1 rfl fun H1 kC hkC e1 z1 o1 => ?_
  rw [zcells hc1 h1, zslots hs1 h2, hR.size]
  refine hK _ _ h p e s m args below meth cd X H1 locs A (hR.push (by show ci < 21; omega) z1 o1 ?_) hL hF (by show bc - 1 ≤ mc; omega) (by show bs - N ≤ ms; omega)
  rw [zent_obj zNew_kind g0, ← hR.size]
  refine ⟨_, g1, (u_born ty hts (fun w hw => zTb_in (g2 w hw)) hKn hkC e1 g3).to (fun j hj => ?_)⟩
  have hb9 : (zFs ci)[j]? = some ((zFs ci)[j]'(by rw [g5]; exact hj)) := List.getElem?_eq_getElem _
  generalize (zFs ci)[j]'(by rw [g5]; exact hj) = b at hb9
  rw [hKD j hj b hb9]
  have hg := zFld_get (E := E) (σ := zNew σ (ci, N)) (n := zn σ) hb9
  show _ = (zFld E (zNew σ (ci, N)) (zn σ) ci).getD j .null
  rw [List.getD_eq_getElem?_getD, hg]
  cases b
  · show Value.int 0 = .int (if zn σ = zn σ then 0 else _); rw [if_pos rfl]
  · show Value.null = zrf E (if zn σ = zn σ then none else _); rw [if_pos rfl]; rfl
/-- an array comes (t 16: ints, 17: booleans, 20: longs; 18, 19: references) -/
def oNewA (t nx : Nat) : zOp := fun _ _ _ c K => match c.2.1 with
  | .int n :: st => ∃ N : Nat, n = nI N ∧ N ≤ 100000 ∧ 1 ≤ c.2.2.2.1 ∧ N ≤ c.2.2.2.2 ∧ K nx (c.1, .ref (zn c.2.2.1) :: st, zNew c.2.2.1 (t, N), c.2.2.2.1 - 1, c.2.2.2.2 - N)
  | _ => False
theorem snd_newI {M : zM} {pc : Nat} (hd : decode M.2.1 pc = .ok (.newarray .int, 2)) (hw : Cond.arrayClass .int ∈ zTb) : zSnd M pc (oNewA 16 (pc + 2)) := by
  intro E d Q mc ms c K hK h p e s m args below meth cd X H locs A hR hL hF h1 h2
  obtain ⟨ls, st, σ, bc, bs⟩ := c
  have hx := X.1
  have hb := X.2.1
  have hts := X.2.2.2.2.2.2.1
  have hown := X.2.2.2.2.2.1
  have hSK := X.2.2.2.2.2.2.2.1
  dsimp only [oNewA] at h
  split at h
  · next n st =>
    obtain ⟨N, rfl, hN, hc1, hs1, h⟩ := h
    dsimp only at hc1 hs1 h1 h2 ⊢
    refine va_newaK (atype := .int) hx hb (hts _ (zTb_in hw)) rfl hd rfl (nI_pos (by omega)) (nI_clamp (by omega)) (zbytes hN (by decide)) (by show mc - bc + 1 ≤ mc; omega) (by show ms - bs + N ≤ ms; omega) hR.size fun H1 cA e1 z1 o1 hAr hNm => ?_
    have hcA : eC E 16 = cA := Option.some.inj ((hSK.1.2 0 _ rfl).2.symm.trans hNm)
    rw [zcells hc1 h1, zslots hs1 h2]
    refine hK _ _ h p e s m args below meth cd X H1 locs A (hR.push (by show 16 < 21; decide) (z1.trans (by rw [← hR.size])) (fun q hq => o1 q (by rw [← hR.size]; exact hq)) ?_) hL hF (by show bc - 1 ≤ mc; omega) (by show bs - N ≤ ms; omega)
    rw [zent_arr zNew_kind (Or.inl rfl), hcA]
    show H1[zad E (zn σ)]? = some (vp_cell _ _)
    rw [e1, vp_cell_i]
    congr 2
    funext j
    show Value.int 0 = Value.int (if zn σ = zn σ then 0 else _)
    rw [if_pos rfl]
  · exact h.elim
theorem snd_newZ {M : zM} {pc : Nat} (hd : decode M.2.1 pc = .ok (.newarray .boolean, 2)) (hw : Cond.arrayClass .boolean ∈ zTb) : zSnd M pc (oNewA 17 (pc + 2)) := by
  intro E d Q mc ms c K hK h p e s m args below meth cd X H locs A hR hL hF h1 h2
  obtain ⟨ls, st, σ, bc, bs⟩ := c
  have hx := X.1
  have hb := X.2.1
  have hts := X.2.2.2.2.2.2.1
  have hown := X.2.2.2.2.2.1
  have hSK := X.2.2.2.2.2.2.2.1
  dsimp only [oNewA] at h
  split at h
  · next n st =>
    obtain ⟨N, rfl, hN, hc1, hs1, h⟩ := h
    dsimp only at hc1 hs1 h1 h2 ⊢
    refine va_newaK (atype := .boolean) hx hb (hts _ (zTb_in hw)) rfl hd rfl (nI_pos (by omega)) (nI_clamp (by omega)) (zbytes hN (by decide)) (by show mc - bc + 1 ≤ mc; omega) (by show ms - bs + N ≤ ms; omega) hR.size fun H1 cA e1 z1 o1 hAr hNm => ?_
    have hcA : eC E 17 = cA := Option.some.inj ((hSK.1.2 1 _ rfl).2.symm.trans hNm)
    rw [zcells hc1 h1, zslots hs1 h2]
    refine hK _ _ h p e s m args below meth cd X H1 locs A (hR.push (by show 17 < 21; decide) (z1.trans (by rw [← hR.size])) (fun q hq => o1 q (by rw [← hR.size]; exact hq)) ?_) hL hF (by show bc - 1 ≤ mc; omega) (by show bs - N ≤ ms; omega)
    rw [zent_arr zNew_kind (Or.inr rfl), hcA]
    show H1[zad E (zn σ)]? = some (vp_cell _ _)
    rw [e1, vp_cell_i]
    congr 2
    funext j
    show Value.int 0 = Value.int (if zn σ = zn σ then 0 else _)
    rw [if_pos rfl]
  · exact h.elim
theorem snd_newL {M : zM} {pc : Nat} (hd : decode M.2.1 pc = .ok (.newarray .long, 2)) (hw : Cond.arrayClass .long ∈ zTb) : zSnd M pc (oNewA 20 (pc + 2)) := by
  intro E d Q mc ms c K hK h p e s m args below meth cd X H locs A hR hL hF h1 h2
  obtain ⟨ls, st, σ, bc, bs⟩ := c
  have hx := X.1
  have hb := X.2.1
  have hts := X.2.2.2.2.2.2.1
  have hown := X.2.2.2.2.2.1
  have hSK := X.2.2.2.2.2.2.2.1
  dsimp only [oNewA] at h
  split at h
  · next n st =>
    obtain ⟨N, rfl, hN, hc1, hs1, h⟩ := h
    dsimp only at hc1 hs1 h1 h2 ⊢
    refine va_newaK (atype := .long) hx hb (hts _ (zTb_in hw)) rfl hd rfl (nI_pos (by omega)) (nI_clamp (by omega)) (zbytes hN (by decide)) (by show mc - bc + 1 ≤ mc; omega) (by show ms - bs + N ≤ ms; omega) hR.size fun H1 cA e1 z1 o1 hAr hNm => ?_
    have hcA : eC E 20 = cA := Option.some.inj ((hSK.1.2 4 _ rfl).2.symm.trans hNm)
    rw [zcells hc1 h1, zslots hs1 h2]
    refine hK _ _ h p e s m args below meth cd X H1 locs A (hR.push (by show 20 < 21; decide) (z1.trans (by rw [← hR.size])) (fun q hq => o1 q (by rw [← hR.size]; exact hq)) ?_) hL hF (by show bc - 1 ≤ mc; omega) (by show bs - N ≤ ms; omega)
    rw [zent_lng zNew_kind, hcA]
    show H1[zad E (zn σ)]? = some (vp_cell _ _)
    rw [e1, vp_cell_l]
    congr 2
    funext j
    show Value.long 0 = Value.long (if zn σ = zn σ then 0 else _)
    rw [if_pos rfl]
  · exact h.elim
theorem snd_new18 {M : zM} {pc idx : Nat} (hd : decode M.2.1 pc = .ok (.anewarray idx, 3)) (hw : Cond.classLink M.1.cls idx "SlowerForTheLate$Row" ∈ zTb) : zSnd M pc (oNewA 18 (pc + 3)) := by
  intro E d Q mc ms c K hK h p e s m args below meth cd X H locs A hR hL hF h1 h2
  obtain ⟨ls, st, σ, bc, bs⟩ := c
  have hx := X.1
  have hb := X.2.1
  have hts := X.2.2.2.2.2.2.1
  have hown := X.2.2.2.2.2.1
  have hSK := X.2.2.2.2.2.2.2.1
  dsimp only [oNewA] at h
  split at h
  · next n st =>
    obtain ⟨N, rfl, hN, hc1, hs1, h⟩ := h
    dsimp only at hc1 hs1 h1 h2 ⊢
    have hcl : (nI N).toNatClampNeg = N := nI_clamp (by omega)
    refine W.anew hx hb hown (hts _ (zTb_in hw)) (va_AO.use hSK.2.2.2.2.1) rfl hd rfl (nI_pos (by omega)) (by rw [hcl]; exact zbytes hN (by decide)) (by show mc - bc + 1 ≤ mc; omega) (by rw [hcl]; show ms - bs + N ≤ ms; omega) fun cA kA comp f1 f2 f3 f4 => ?_
    rw [hcl]
    obtain ⟨-, -, -, -, -, k4⟩ := (hSK.1.2 2 _ rfl).2
    have hcA : eC E 18 = cA := Option.some.inj (k4.symm.trans f1)
    generalize hH1 : H.push ({ cls := cA, slots := Array.replicate N .null, vm := .none } : Cell) = H1
    have z1 : H1.size = H.size + 1 := by rw [← hH1, Array.size_push]
    have e1 : H1[H.size]? = some (arrV cA N (fun _ => .null)) := by rw [← hH1, Array.getElem?_push_size, ← arrV_new]
    have o1 : ∀ q : Nat, q < H.size → H1[q]? = H[q]? := fun q hq => by rw [← hH1, Array.getElem?_push, if_neg (Nat.ne_of_lt hq)]
    rw [zcells hc1 h1, zslots hs1 h2, hR.size]
    refine hK _ _ h p e s m args below meth cd X H1 locs A (hR.push (by show 18 < 21; decide) z1 o1 ?_) hL hF (by show bc - 1 ≤ mc; omega) (by show bs - N ≤ ms; omega)
    rw [zent_ref zNew_kind (Or.inl rfl), ← hR.size, hcA]
    show H1[H.size]? = some (vp_cell _ _)
    rw [e1, vp_cell_q]
    congr 2
    funext j
    show Value.null = va_rf ((if zn σ = zn σ then none else _).map _)
    rw [if_pos rfl]
    rfl
  · exact h.elim
theorem snd_new19 {M : zM} {pc idx : Nat} (hd : decode M.2.1 pc = .ok (.anewarray idx, 3)) (hw : Cond.classLink M.1.cls idx "SlowerForTheLate$Walker" ∈ zTb) : zSnd M pc (oNewA 19 (pc + 3)) := by
  intro E d Q mc ms c K hK h p e s m args below meth cd X H locs A hR hL hF h1 h2
  obtain ⟨ls, st, σ, bc, bs⟩ := c
  have hx := X.1
  have hb := X.2.1
  have hts := X.2.2.2.2.2.2.1
  have hown := X.2.2.2.2.2.1
  have hSK := X.2.2.2.2.2.2.2.1
  dsimp only [oNewA] at h
  split at h
  · next n st =>
    obtain ⟨N, rfl, hN, hc1, hs1, h⟩ := h
    dsimp only at hc1 hs1 h1 h2 ⊢
    have hcl : (nI N).toNatClampNeg = N := nI_clamp (by omega)
    refine W.anew hx hb hown (hts _ (zTb_in hw)) (va_AO.use hSK.2.2.2.2.2.1) rfl hd rfl (nI_pos (by omega)) (by rw [hcl]; exact zbytes hN (by decide)) (by show mc - bc + 1 ≤ mc; omega) (by rw [hcl]; show ms - bs + N ≤ ms; omega) fun cA kA comp f1 f2 f3 f4 => ?_
    rw [hcl]
    obtain ⟨-, -, -, -, -, k4⟩ := (hSK.1.2 3 _ rfl).2
    have hcA : eC E 19 = cA := Option.some.inj (k4.symm.trans f1)
    generalize hH1 : H.push ({ cls := cA, slots := Array.replicate N .null, vm := .none } : Cell) = H1
    have z1 : H1.size = H.size + 1 := by rw [← hH1, Array.size_push]
    have e1 : H1[H.size]? = some (arrV cA N (fun _ => .null)) := by rw [← hH1, Array.getElem?_push_size, ← arrV_new]
    have o1 : ∀ q : Nat, q < H.size → H1[q]? = H[q]? := fun q hq => by rw [← hH1, Array.getElem?_push, if_neg (Nat.ne_of_lt hq)]
    rw [zcells hc1 h1, zslots hs1 h2, hR.size]
    refine hK _ _ h p e s m args below meth cd X H1 locs A (hR.push (by show 19 < 21; decide) z1 o1 ?_) hL hF (by show bc - 1 ≤ mc; omega) (by show bs - N ≤ ms; omega)
    rw [zent_ref zNew_kind (Or.inr rfl), ← hR.size, hcA]
    show H1[H.size]? = some (vp_cell _ _)
    rw [e1, vp_cell_q]
    congr 2
    funext j
    show Value.null = va_rf ((if zn σ = zn σ then none else _).map _)
    rw [if_pos rfl]
    rfl
  · exact h.elim
/-- a read-only array by its static field -/
def oGetS (r nx : Nat) : zOp := fun _ _ _ c K => K nx (c.1, .ref r :: c.2.1, c.2.2)
theorem zgets {E : zE} {σ : zS} {H : Heap} {M : zM} {idx r : Nat} {nm : String} {p : Program} {e : Env} {R : Room} {s : State} {m : MethodId} {args : Array Value} {below : List Frame} {meth : Method} {cd : Code} {locs : List Loc} {cells slots pc : Nat} {Qf : State → Prop} {A : Array Slot} {rest : List Value}
    (hx : p.tables.exec = Jvm.exec) (hb : cd.code = M.2.1) (hts : ∀ w ∈ zW M, w.before args s = true) (hown : s.vm.findClass M.1.cls = some m.cls) (hZ : va_Z "SlowerForTheLate$Plan" nm "[I" (.ref (eA E r)) (fun q => eB E ≤ q) s (eH E)) (hR : zRel E σ H) (hr : r < 3) (hl : Cond.fieldLink M.1.cls idx "SlowerForTheLate$Plan" nm "[I" ∈ zTb) (hd : decode M.2.1 pc = .ok (.getstatic idx, 3))
    (kk : W p (eL E) e R s m args below meth cd H locs cells slots Qf (F0 m (pc + 3) A (.ref (zad E r) :: rest))) : W p (eL E) e R s m args below meth cd H locs cells slots Qf (F0 m pc A rest) := by
  obtain ⟨cf, kf, fi, f, a, cell, h1, h2, h3, h4, h5, h6, h7, h8⟩ := hZ
  have hra : zad E r = eA E r := by unfold zad; rw [if_pos hr]
  rw [hra] at kk
  exact W.gets hx hb hown (hts _ (zTb_in hl)) h1 h2 h3 h4 (by rw [hR.2.2.2.1 a (by omega)]; exact h5) (fun e => by rw [e] at h6; cases h6) h7 rfl hd kk
theorem snd_getS1 {M : zM} {pc idx : Nat} (hd : decode M.2.1 pc = .ok (.getstatic idx, 3)) (hl : Cond.fieldLink M.1.cls idx "SlowerForTheLate$Plan" "LEAST_RULES" "[I" ∈ zTb) : zSnd M pc (oGetS 1 (pc + 3)) := by
  intro E d Q mc ms c K hK h p e s m args below meth cd X H locs A hR hL hF h1 h2
  obtain ⟨ls, st, σ, bc, bs⟩ := c
  have hx := X.1
  have hb := X.2.1
  have hts := X.2.2.2.2.2.2.1
  have hown := X.2.2.2.2.2.1
  have hSK := X.2.2.2.2.2.2.2.1
  exact zgets hx hb hts hown hSK.2.2.1 hR (by decide) hl hd (hK _ _ h p e s m args below meth cd X H locs A hR hL hF h1 h2)
theorem snd_getS2 {M : zM} {pc idx : Nat} (hd : decode M.2.1 pc = .ok (.getstatic idx, 3)) (hl : Cond.fieldLink M.1.cls idx "SlowerForTheLate$Plan" "MOST_RULES" "[I" ∈ zTb) : zSnd M pc (oGetS 2 (pc + 3)) := by
  intro E d Q mc ms c K hK h p e s m args below meth cd X H locs A hR hL hF h1 h2
  obtain ⟨ls, st, σ, bc, bs⟩ := c
  have hx := X.1
  have hb := X.2.1
  have hts := X.2.2.2.2.2.2.1
  have hown := X.2.2.2.2.2.1
  have hSK := X.2.2.2.2.2.2.2.1
  exact zgets hx hb hts hown hSK.2.2.2.1 hR (by decide) hl hd (hK _ _ h p e s m args below meth cd X H locs A hR hL hF h1 h2)
/-- switches: the keys with their targets, one behind the other; else d -/
def zsw (x : Int32) (d : Nat) (P : Nat → Prop) : List (Int32 × Nat) → Prop
  | [] => P d
  | (k, t) :: l => (x = k → P t) ∧ (¬ x = k → zsw x d P l)
def oSw (ps : List (Int32 × Nat)) (d : Nat) : zOp := fun _ _ _ c K => match c.2.1 with
  | .int x :: st => zsw x d (fun t => K t (c.1, st, c.2.2)) ps
  | _ => False
theorem zsw_spec {x : Int32} {d : Nat} {P : Nat → Prop} : ∀ {ps : List (Int32 × Nat)}, zsw x d P ps → (∃ q ∈ ps, x = q.1 ∧ P q.2) ∨ ((∀ q ∈ ps, ¬ x = q.1) ∧ P d)
  | [], h => Or.inr ⟨(fun _ q => by cases q), h⟩
  | (k, t) :: l, h => by
    by_cases e : x = k
    · exact Or.inl ⟨(k, t), List.mem_cons_self, e, h.1 e⟩
    · rcases zsw_spec (h.2 e) with ⟨q, h1, h2⟩ | ⟨h1, h2⟩
      · exact Or.inl ⟨q, List.mem_cons_of_mem _ h1, h2⟩
      · refine Or.inr ⟨fun q hq => ?_, h2⟩
        rcases List.mem_cons.mp hq with z | z
        · rw [z]; exact e
        · exact h1 q z
/-- a tableswitch's keys: the i-th key is lo and i, its target by the i-th offset -/
def ztab (pc : Nat) (lo : Int) : Int → List Int → List (Int32 × Nat) → Bool
  | _, [], [] => true
  | i, o :: os, (k, t) :: ps => (decide (k.toInt = lo + i) && decide ((pc : Int) + o = (t : Int))) && ztab pc lo (i + 1) os ps
  | _, _, _ => false
theorem ztab_get {pc : Nat} {lo : Int} : ∀ {i : Int} {os : List Int} {ps : List (Int32 × Nat)}, ztab pc lo i os ps = true → os.length = ps.length ∧ ∀ (j : Nat) (k : Int32) (t : Nat), ps[j]? = some (k, t) → ∃ o, os[j]? = some o ∧ k.toInt = lo + (i + j) ∧ (pc : Int) + o = (t : Int)
  | _, [], [], _ => ⟨rfl, fun j k t h => by simp at h⟩
  | i, [], _ :: _, h => by cases h
  | i, _ :: _, [], h => by cases h
  | i, o :: os, (k0, t0) :: ps, h => by
    simp only [ztab, Bool.and_eq_true, decide_eq_true_eq] at h
    obtain ⟨⟨h1, h2⟩, h3⟩ := h
    obtain ⟨g1, g2⟩ := ztab_get h3
    refine ⟨by simp [g1], fun j k t hj => ?_⟩
    cases j with
    | zero =>
      simp only [List.getElem?_cons_zero, Option.some.injEq, Prod.mk.injEq] at hj
      obtain ⟨rfl, rfl⟩ := hj
      exact ⟨o, rfl, by simpa using h1, h2⟩
    | succ j =>
      simp only [List.getElem?_cons_succ] at hj
      obtain ⟨o', e1, e2, e3⟩ := g2 j k t hj
      exact ⟨o', by simpa using e1, by rw [e2]; push_cast; omega, e3⟩
theorem snd_tsw {M : zM} {pc d len : Nat} {dflt lo hi : Int} {offs : Array Int} {ps : List (Int32 × Nat)} (hd : decode M.2.1 pc = .ok (.tableswitch dflt lo hi offs, len)) (hdf : (pc : Int) + dflt = (d : Int)) (hl : hi = lo + ps.length - 1) (ht : ztab pc lo 0 offs.toList ps = true) : zSnd M pc (oSw ps d) := by
  intro E d Q mc ms c K hK h p e s m args below meth cd X H locs A hR hL hF h1 h2
  obtain ⟨ls, st, σ, bc, bs⟩ := c
  have hx := X.1
  have hb := X.2.1
  have hts := X.2.2.2.2.2.2.1
  have hown := X.2.2.2.2.2.1
  have hSK := X.2.2.2.2.2.2.2.1
  dsimp only [oSw] at h
  obtain ⟨g1, g2⟩ := ztab_get ht
  split at h
  · next x st =>
    rcases zsw_spec h with ⟨⟨k, t⟩, q1, rfl, h⟩ | ⟨q1, h⟩
    · obtain ⟨j, hj⟩ := List.getElem?_of_mem q1
      obtain ⟨o, e1, e2, e3⟩ := g2 j x t hj
      have hjl : j < ps.length := (List.getElem?_eq_some_iff.mp hj).1
      refine lv_tableIn hx hb hd (x := x) (off := o) (tgt := t) (by omega) (by omega) ?_ e3 (hK _ _ h p e s m args below meth cd X H locs A hR hL hF h1 h2)
      rw [show (x.toInt - lo).toNat = j by omega]
      simpa using e1
    · refine lv_tableOut hx hb hd (x := x) ?_ hdf (hK _ _ h p e s m args below meth cd X H locs A hR hL hF h1 h2)
      rcases Int.lt_or_le x.toInt lo with z | z
      · exact Or.inl z
      · right
        rcases Int.lt_or_le hi x.toInt with z2 | z2
        · exact z2
        · exfalso
          have hj : (x.toInt - lo).toNat < ps.length := by omega
          have hg : ps[(x.toInt - lo).toNat]? = some (ps[(x.toInt - lo).toNat]'hj) := List.getElem?_eq_getElem hj
          generalize ps[(x.toInt - lo).toNat]'hj = kt at hg
          obtain ⟨k, t⟩ := kt
          obtain ⟨o, e1, e2, e3⟩ := g2 _ k t hg
          exact q1 (k, t) (List.mem_of_getElem? hg) (Int32.toInt_inj.mp (by rw [e2]; omega))
  · exact h.elim
def zlkp (pc : Nat) : List (Int × Int) → List (Int32 × Nat) → Bool
  | [], [] => true
  | (v, o) :: os, (k, t) :: ps => (decide (k.toInt = v) && decide ((pc : Int) + o = (t : Int))) && zlkp pc os ps
  | _, _ => false
theorem zlkp_hit {pc : Nat} {x : Int32} {dflt : Int} {d : Nat} {P : Nat → Prop} (hdf : (pc : Int) + dflt = (d : Int)) : ∀ {os : List (Int × Int)} {ps : List (Int32 × Nat)}, zlkp pc os ps = true → zsw x d P ps → ∃ t : Nat, (pc : Int) + Op.lookupswitch.offset os dflt x.toInt = (t : Int) ∧ P t
  | [], [], _, h => ⟨d, hdf, h⟩
  | [], _ :: _, h, _ => by cases h
  | _ :: _, [], h, _ => by cases h
  | (v, o) :: os, (k, t) :: ps, h, hw => by
    simp only [zlkp, Bool.and_eq_true, decide_eq_true_eq] at h
    obtain ⟨⟨e1, e2⟩, e3⟩ := h
    by_cases e : x = k
    · refine ⟨t, ?_, hw.1 e⟩
      subst e
      simp only [Op.lookupswitch.offset]
      simp [e1, e2]
    · have hne : ¬ v = x.toInt := fun z => e (Int32.toInt_inj.mp (by rw [e1, z]))
      obtain ⟨t', g1, g2⟩ := zlkp_hit hdf e3 (hw.2 e)
      refine ⟨t', ?_, g2⟩
      rw [← g1]
      simp [Op.lookupswitch.offset, hne]
theorem snd_lsw {M : zM} {pc d len : Nat} {dflt : Int} {qs : Array (Int × Int)} {ps : List (Int32 × Nat)} (hd : decode M.2.1 pc = .ok (.lookupswitch dflt qs, len)) (hdf : (pc : Int) + dflt = (d : Int)) (hs : (qs.toList.zip (qs.toList.drop 1)).all (fun (a, next) => a.1 < next.1) = true) (ht : zlkp pc qs.toList ps = true) : zSnd M pc (oSw ps d) := by
  intro E d Q mc ms c K hK h p e s m args below meth cd X H locs A hR hL hF h1 h2
  obtain ⟨ls, st, σ, bc, bs⟩ := c
  have hx := X.1
  have hb := X.2.1
  have hts := X.2.2.2.2.2.2.1
  have hown := X.2.2.2.2.2.1
  have hSK := X.2.2.2.2.2.2.2.1
  dsimp only [oSw] at h
  split at h
  · next x st =>
    obtain ⟨t, e1, h⟩ := zlkp_hit hdf ht h
    exact lv_lookup hx hb hd hs rfl e1 (hK _ _ h p e s m args below meth cd X H locs A hR hL hF h1 h2)
  · exact h.elim
