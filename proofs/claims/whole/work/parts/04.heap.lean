/-! Steps of the heap -/
theorem zRel.in {E : zE} {σ : zS} {H : Heap} (hR : zRel E σ H) {n c L : Nat} (hk : zk σ n = (c, L)) (hc : c < 21) : 3 ≤ n ∧ n < zn σ := by
  refine ⟨?_, ?_⟩
  · rcases Nat.lt_or_ge n 3 with q | q
    · have := (hR.2.2.2.2.1 n q).1
      rw [hk] at this
      cases this
      omega
    · exact q
  · rcases Nat.lt_or_ge n (zn σ) with q | q
    · exact q
    · have := hR.2.2.2.2.2 n q
      rw [hk] at this
      simp only at this
      omega
theorem zad_own {E : zE} {n : Nat} (h : 3 ≤ n) : zad E n = eB E + (n - 3) := by unfold zad; rw [if_neg (by omega)]
theorem zad_ge {E : zE} {n : Nat} (h : 3 ≤ n) : eB E ≤ zad E n := by rw [zad_own h]; omega
theorem zad_ne {E : zE} {n n' : Nat} (h : 3 ≤ n) (h' : 3 ≤ n') (hn : n' ≠ n) : zad E n' ≠ zad E n := by rw [zad_own h, zad_own h']; omega
theorem zRel.at {E : zE} {σ : zS} {H : Heap} (hR : zRel E σ H) {n c L : Nat} (hk : zk σ n = (c, L)) (hc : c < 21) : va_at (eD E) zCl (zad E n, zent E σ n) H := (hR.2.2.1 n (hR.in hk hc).1 (hR.in hk hc).2).2
theorem zent_congr {E : zE} {σ σ' : zS} {n : Nat} (h0 : zk σ' n = zk σ n) (h1 : zi σ' n = zi σ n) (h2 : zr σ' n = zr σ n) (h3 : zl σ' n = zl σ n) : zent E σ' n = zent E σ n := by
  unfold zent zFld
  have : (fun q : Bool × Nat => zfv E σ' n q.2 q.1) = (fun q => zfv E σ n q.2 q.1) := by
    funext q
    unfold zfv
    rw [h1, h2]
  rw [h0, h1, h2, h3, this]
/-- a cell is written -/
theorem zRel.upd {E : zE} {σ σ' : zS} {H H1 : Heap} {n : Nat} (hR : zRel E σ H) (h3 : 3 ≤ n) (hz : H1.size = H.size) (ho : ∀ q : Nat, q ≠ zad E n → H1[q]? = H[q]?) (hat : va_at (eD E) zCl (zad E n, zent E σ' n) H1)
    (hk : zk σ' = zk σ) (hn : zn σ' = zn σ) (he : ∀ a, a ≠ n → zi σ' a = zi σ a ∧ zr σ' a = zr σ a ∧ zl σ' a = zl σ a) : zRel E σ' H1 := by
  refine ⟨by rw [hn]; exact hR.1, by rw [hz, hn]; exact hR.2.1, fun a ha hlt => ?_, fun q hq => ?_, fun a ha => ?_, fun a ha => by rw [hk]; exact hR.2.2.2.2.2 a (by rw [← hn]; exact ha)⟩
  · by_cases e : a = n
    · subst e; exact ⟨by rw [hk]; rw [hn] at hlt; exact (hR.2.2.1 a ha hlt).1, hat⟩
    · obtain ⟨e1, e2, e3⟩ := he a e
      rw [zent_congr (by rw [hk]) e1 e2 e3, hk]
      rw [hn] at hlt
      exact ⟨(hR.2.2.1 a ha hlt).1, (hR.2.2.1 a ha hlt).2.kept (ho _ (zad_ne h3 ha e))⟩
  · rw [ho q (by have := zad_ge (E := E) h3; omega)]
    exact hR.2.2.2.1 q hq
  · rw [hk, (he a (by omega)).1]
    exact hR.2.2.2.2.1 a ha
theorem zP1 {E : zE} {H : Heap} {a : Nat} {x : va_E} (h : va_at (eD E) zCl (a, x) H) : va_P (eD E) zCl [(a, x)] H := by
  intro k q hk
  cases k with
  | zero => cases hk; exact h
  | succ k => cases hk
/-- the kinds' facts that do not hang on a state -/
def zKC (ci : Nat) (C : String) (T : u_T) (N : Nat) (ty : Nat → FieldType) : Prop := zCl[ci]? = some (C, T, N) ∧ ci < 16 ∧ (∀ w ∈ u_ws C T N, w ∈ zTb) ∧ (∀ k, k < N → parseFieldDescriptor (T k).2.2.1 = some (ty k)) ∧ (∀ a, a < N → ∀ b, b < N → a ≠ b → (T a).2.1 ≠ (T b).2.1) ∧ (zFs ci).length = N
/-- a field reference: in class own at idx, place k of each class of cis, a reference or not -/
def zFC (M : zM) (idx k : Nat) (b : Bool) (cis : List Nat) : Prop := ∃ ref name desc owner : String, Cond.fieldLink M.1.cls idx ref name desc ∈ zTb ∧ (ref = owner ∨ Cond.sameField ref owner name desc ∈ zTb) ∧ ∀ ci ∈ cis, ∃ C T N ty, zKC ci C T N ty ∧ k < N ∧ (T k).1 = owner ∧ (T k).2.1 = name ∧ (T k).2.2.1 = desc ∧ (zFs ci)[k]? = some b
theorem zFld_get {E : zE} {σ : zS} {n ci k : Nat} {b : Bool} (h : (zFs ci)[k]? = some b) : (zFld E σ n ci)[k]? = some (zfv E σ n k b) := by
  unfold zFld
  rw [List.getElem?_map, List.getElem?_zipIdx, h]
  simp
theorem zent_obj {E : zE} {σ : zS} {n ci L : Nat} (hk : zk σ n = (ci, L)) (hc : ci < 16) : zent E σ n = .inr (ci, zFld E σ n ci) := by
  unfold zent
  rw [hk, if_pos hc]
def zmem : Nat → List Nat → Bool
  | _, [] => false
  | a, b :: l => if a = b then true else zmem a l
theorem zmem_mem {a : Nat} : ∀ {l : List Nat}, zmem a l = true → a ∈ l
  | [], h => by cases h
  | b :: l, h => by
    unfold zmem at h
    split at h
    · next e => rw [e]; exact List.mem_cons_self
    · exact List.mem_cons_of_mem _ (zmem_mem h)
/-- getfield of an int, of a reference -/
def oGetI (k : Nat) (cis : List Nat) (nx : Nat) : zOp := fun _ _ _ c K => match c.2.1 with
  | .ref n :: st => ∃ q : Nat × Nat, zk c.2.2.1 n = q ∧ zmem q.1 cis = true ∧ K nx (c.1, .int (zi c.2.2.1 n k) :: st, c.2.2)
  | _ => False
def zvr (o : Option Nat) : Value := match o with
  | none => .null
  | some n => .ref n
def oGetR (k : Nat) (cis : List Nat) (nx : Nat) : zOp := fun _ _ _ c K => match c.2.1 with
  | .ref n :: st => ∃ q : Nat × Nat, zk c.2.2.1 n = q ∧ zmem q.1 cis = true ∧ ∃ o : Option Nat, zr c.2.2.1 n k = o ∧ K nx (c.1, zvr o :: st, c.2.2)
  | _ => False
theorem ztr_vr {E : zE} (o : Option Nat) : ztr E (zvr o) = zrf E o := by cases o <;> rfl
theorem zget {E : zE} {σ : zS} {H : Heap} {M : zM} {idx k n : Nat} {b : Bool} {cis : List Nat} {q : Nat × Nat} {p : Program} {e : Env} {R : Room} {s : State} {m : MethodId} {args : Array Value} {below : List Frame} {meth : Method} {cd : Code} {locs : List Loc} {cells slots pc : Nat} {Qf : State → Prop} {A : Array Slot} {rest : List Value}
    (hx : p.tables.exec = Jvm.exec) (hb : cd.code = M.2.1) (hts : ∀ w ∈ zW M, w.before args s = true) (hown : s.vm.findClass M.1.cls = some m.cls) (hSK : zSK E s) (hR : zRel E σ H) (hF : zFC M idx k b cis) (hk : zk σ n = q) (hq : zmem q.1 cis = true) (hd : decode M.2.1 pc = .ok (.getfield idx, 3))
    (kk : W p (eL E) e R s m args below meth cd H locs cells slots Qf (F0 m (pc + 3) A (zfv E σ n k b :: rest))) : W p (eL E) e R s m args below meth cd H locs cells slots Qf (F0 m pc A (.ref (zad E n) :: rest)) := by
  obtain ⟨ci, L⟩ := q
  obtain ⟨ref, name, desc, owner, hl, hs, hall⟩ := hF
  obtain ⟨C, T, N, ty, ⟨g1, g0, g2, g3, g4, g5⟩, hkN, e1, e2, e3, hb9⟩ := hall ci (zmem_mem hq)
  have hat := hR.at hk (by omega)
  rw [zent_obj hk g0] at hat
  refine va_get (D := eD E) (cl := zCl) (C := C) (T := T) (N := N) (ci := ci) hx hb hts (fun w hw => zTb_in (g2 w hw)) hown hSK.1 (zP1 hat) 0 rfl g1 k hkN (ref := ref) (by rw [e2, e3]; exact hts _ (zTb_in hl)) ?_ (zFld_get hb9) hd kk
  intro x hf
  rcases hs with q | q
  · rw [q, ← e1]; exact hf
  · rw [e2, e3]
    rw [e1, e2, e3] at hf
    exact u_same (hts _ (zTb_in q)) x hf
theorem snd_getI {M : zM} {pc idx k : Nat} {cis : List Nat} (hd : decode M.2.1 pc = .ok (.getfield idx, 3)) (hF9 : zFC M idx k false cis) : zSnd M pc (oGetI k cis (pc + 3)) := by
  intro E d Q mc ms c K hK h p e s m args below meth cd X H locs A hR hL hF h1 h2
  obtain ⟨ls, st, σ, bc, bs⟩ := c
  have hx := X.1
  have hb := X.2.1
  have hts := X.2.2.2.2.2.2.1
  have hown := X.2.2.2.2.2.1
  have hSK := X.2.2.2.2.2.2.2.1
  dsimp only [oGetI] at h
  split at h
  · obtain ⟨q, q1, q2, h⟩ := h
    exact zget hx hb hts hown hSK hR hF9 q1 q2 hd (hK _ _ h p e s m args below meth cd X H locs A hR hL hF h1 h2)
  · exact h.elim
theorem snd_getR {M : zM} {pc idx k : Nat} {cis : List Nat} (hd : decode M.2.1 pc = .ok (.getfield idx, 3)) (hF9 : zFC M idx k true cis) : zSnd M pc (oGetR k cis (pc + 3)) := by
  intro E d Q mc ms c K hK h p e s m args below meth cd X H locs A hR hL hF h1 h2
  obtain ⟨ls, st, σ, bc, bs⟩ := c
  have hx := X.1
  have hb := X.2.1
  have hts := X.2.2.2.2.2.2.1
  have hown := X.2.2.2.2.2.1
  have hSK := X.2.2.2.2.2.2.2.1
  dsimp only [oGetR] at h
  split at h
  · next n st =>
    obtain ⟨q, q1, q2, o, q3, h⟩ := h
    have hw := hK _ _ h p e s m args below meth cd X H locs A hR hL hF h1 h2
    dsimp only [List.map] at hw ⊢
    rw [ztr_vr, ← q3] at hw
    exact zget hx hb hts hown hSK hR hF9 q1 q2 hd hw
  · exact h.elim
theorem zu_eq {α : Type} {f : Nat → Nat → α} {n j : Nat} {v : α} : zu f n j v n j = v := by simp [zu]
theorem zu_row {α : Type} {f : Nat → Nat → α} {n j a : Nat} {v : α} (h : a ≠ n) : zu f n j v a = f a := by funext b; simp [zu, h]
theorem zFld_len {E : zE} {σ : zS} {n ci : Nat} : (zFld E σ n ci).length = (zFs ci).length := by simp [zFld]
theorem zFld_set {E : zE} {σ σ' : zS} {n ci k : Nat} {b : Bool} (h : (zFs ci)[k]? = some b) (he : ∀ j b', j ≠ k → zfv E σ' n j b' = zfv E σ n j b') : zFld E σ' n ci = (zFld E σ n ci).set k (zfv E σ' n k b) := by
  apply List.ext_getElem?
  intro j
  by_cases e : j = k
  · subst e
    have hl : j < (zFld E σ n ci).length := by rw [zFld_len]; exact (List.getElem?_eq_some_iff.mp h).1
    rw [zFld_get h, List.getElem?_set_self hl]
  · rw [List.getElem?_set_ne (Ne.symm e)]
    cases hj : (zFs ci)[j]? with
    | none =>
      have h1 : (zFs ci).length ≤ j := List.getElem?_eq_none_iff.mp hj
      rw [List.getElem?_eq_none (by rw [zFld_len]; exact h1), List.getElem?_eq_none (by rw [zFld_len]; exact h1)]
    | some b' => rw [zFld_get hj, zFld_get hj, he j b' e]
/-- a field reference that may be written: not final; or final, in its class's constructor -/
def zPC (M : zM) (idx k : Nat) (b : Bool) (cis : List Nat) (t : FieldType) : Prop := ∃ ref name desc owner : String, Cond.fieldLink M.1.cls idx ref name desc ∈ zTb ∧ ref = owner ∧ ∀ ci ∈ cis, ∃ C T N ty, zKC ci C T N ty ∧ k < N ∧ (T k).1 = owner ∧ (T k).2.1 = name ∧ (T k).2.2.1 = desc ∧ (zFs ci)[k]? = some b ∧ parseFieldDescriptor desc = some t ∧ ((T k).2.2.2 = false ∨ ((T k).2.2.2 = true ∧ M.1.name = "<init>" ∧ owner = M.1.cls))
theorem zput {E : zE} {σ σ' : zS} {H : Heap} {M : zM} {idx k n : Nat} {b : Bool} {cis : List Nat} {q : Nat × Nat} {t : FieldType} {v : Value} {p : Program} {e : Env} {R : Room} {s : State} {m : MethodId} {args : Array Value} {below : List Frame} {meth : Method} {cd : Code} {locs : List Loc} {cells slots pc : Nat} {Qf : State → Prop} {A : Array Slot} {rest : List Value}
    (hx : p.tables.exec = Jvm.exec) (hb : cd.code = M.2.1) (hts : ∀ w ∈ zW M, w.before args s = true) (hown : s.vm.findClass M.1.cls = some m.cls) (hname : meth.name = M.1.name) (hSK : zSK E s) (hR : zRel E σ H) (hF : zPC M idx k b cis t) (hk : zk σ n = q) (hq : zmem q.1 cis = true) (hd : decode M.2.1 pc = .ok (.putfield idx, 3))
    (hv : zfv E σ' n k b = v) (hn : narrow t v = v) (hfit : fits t v = true) (hk' : zk σ' = zk σ) (hn' : zn σ' = zn σ) (he : ∀ a, a ≠ n → zi σ' a = zi σ a ∧ zr σ' a = zr σ a ∧ zl σ' a = zl σ a) (he2 : ∀ j b', j ≠ k → zfv E σ' n j b' = zfv E σ n j b') (hF0 : ∀ q ∈ locs, eB E ≤ q.base)
    (kk : ∀ (H1 : Heap) (locs1 : List Loc), zRel E σ' H1 → (∀ q ∈ locs1, eB E ≤ q.base) → W p (eL E) e R s m args below meth cd H1 locs1 cells slots Qf (F0 m (pc + 3) A rest)) : W p (eL E) e R s m args below meth cd H locs cells slots Qf (F0 m pc A (v :: .ref (zad E n) :: rest)) := by
  obtain ⟨ci, L⟩ := q
  obtain ⟨ref, name, desc, owner, hl, rfl, hall⟩ := hF
  obtain ⟨C, T, N, ty, ⟨g1, g0, g2, g3, g4, g5⟩, hkN, e1, e2, e3, hb9, hpd, hfin⟩ := hall ci (zmem_mem hq)
  have h3 := (hR.in hk (by omega)).1
  have hat := hR.at hk (by omega)
  rw [zent_obj hk g0] at hat
  have hin : ∀ w ∈ u_ws C T N, w ∈ zW M := fun w hw => zTb_in (g2 w hw)
  have hap := va_apart (own := M.1.cls) hts hin ty g3 g4 hSK.1 g1
  obtain ⟨r, h1, cell, q1, q2, q3, q4⟩ := hat
  have hr : r = (C, T, N) := Option.some.inj (h1.symm.trans g1)
  subst hr
  obtain ⟨hS, hfc, kC, hkC, hkind⟩ := hSK.1.1 ci _ g1
  obtain ⟨cf, kf, fi, f, hi, hsl⟩ := hS k hkN
  have hlay := hts _ (hin _ (u_in_lay hkN))
  have hst := (u_facts hfc hkC (u_lays hts hin hkN) hi).1
  have hlk : (Cond.fieldLink M.1.cls idx ref (T k).2.1 (T k).2.2.1).before args s = true := by rw [e2, e3]; exact hts _ (zTb_in hl)
  have hi' : s.fieldFound? ref (T k).2.1 (T k).2.2.1 = some (cf, kf, fi, f) := by rw [← e1]; exact hi
  have hd9 : parseFieldDescriptor (T k).2.2.1 = some t := by rw [e3]; exact hpd
  have fin : ∀ (H' : Heap), H'[zad E n]? = some (cell.setSlot f.slot v) → H'.size = H.size → (∀ q, q ≠ zad E n → H'[q]? = H[q]?) → zRel E σ' H' := by
    intro H' e1 e2 e3
    rw [hsl] at e1
    refine hR.upd h3 e2 e3 ?_ hk' hn' he
    rw [zent_obj (by rw [hk']; exact hk) g0, zFld_set hb9 he2, hv]
    exact ⟨_, g1, t_OB.to (V := updV (vp_V (zFld E σ n ci)) k v) ⟨_, e1, q2, q3, t_set q4 hap hkN v⟩ (fun j _ => vp_updV_set (by rw [zFld_len, g5]; exact hkN) v j)⟩
  have hl9 : ∀ q ∈ locs ++ [(⟨zad E n, f.slot⟩ : Loc)], eB E ≤ q.base := fun q hq => by
    rcases List.mem_append.mp hq with z | z
    · exact hF0 q z
    · rw [List.mem_singleton.mp z]; exact zad_ge h3
  rcases hfin with hfin | ⟨hfin, hin2, hdecl⟩
  · unfold u_lay at hlay
    rw [if_neg (by rw [hfin]; decide)] at hlay
    have h6 := u_store hfc hkC hkind hlay hi hd9 hn hfit
    refine W.putK hx hb (f := f) ⟨hown, hlk, ⟨_, _, _, hi'⟩, hst⟩ (by rw [q2]; exact h6) q1 q3 (by rw [hsl]; exact k2_hasslot (q4 k hkN)) rfl rfl hd fun H' e1 e2 e3 => ?_
    exact kk H' _ (fin H' e1 e2 e3) hl9
  · unfold u_lay at hlay
    rw [if_pos hfin] at hlay
    have hcf : m.cls = cf := by
      obtain ⟨_, _, c', _, _, _, -, -, hf', -, -, -, hown2, -⟩ := Cond.laysFinal_spec hlay
      have e1' : c' = cf := by have := hi.symm.trans hf'; simp at this; exact this.1.symm
      rw [e1, hdecl] at hown2
      rw [← e1']; exact Option.some.inj (hown.symm.trans hown2)
    have h6 := u_fits hfc hkC hkind (Or.inr hlay) hi hd9 hn hfit
    refine W.putFinK hx hb hown hlk hi' hst hcf (hname.trans hin2) (by rw [q2]; exact h6) q1 q3 (by rw [hsl]; exact k2_hasslot (q4 k hkN)) rfl rfl hd fun H' e1 e2 e3 => ?_
    exact kk H' _ (fin H' e1 e2 e3) hl9
/-- putfield of an int (z: a boolean), of a reference -/
def oPutI (k : Nat) (z : Bool) (cis : List Nat) (nx : Nat) : zOp := fun _ _ _ c K => match c.2.1 with
  | .int x :: .ref n :: st => ∃ q : Nat × Nat, zk c.2.2.1 n = q ∧ zmem q.1 cis = true ∧ (z = true → x = 0 ∨ x = 1) ∧ K nx (c.1, st, zI c.2.2.1 (zu (zi c.2.2.1) n k x), c.2.2.2)
  | _ => False
def oPutR (k : Nat) (cis : List Nat) (nx : Nat) : zOp := fun _ _ _ c K => match c.2.1 with
  | .ref v :: .ref n :: st => ∃ q : Nat × Nat, zk c.2.2.1 n = q ∧ zmem q.1 cis = true ∧ K nx (c.1, st, zR c.2.2.1 (zu (zr c.2.2.1) n k (some v)), c.2.2.2)
  | _ => False
theorem zfv_I {E : zE} {σ : zS} {n k j : Nat} {x : Int32} (b : Bool) (h : j ≠ k) : zfv E (zI σ (zu (zi σ) n k x)) n j b = zfv E σ n j b := by
  cases b
  · simp [zfv, zI, zi, zu, h]
  · rfl
theorem zfv_R {E : zE} {σ : zS} {n k j : Nat} {x : Option Nat} (b : Bool) (h : j ≠ k) : zfv E (zR σ (zu (zr σ) n k x)) n j b = zfv E σ n j b := by
  cases b
  · rfl
  · simp [zfv, zR, zr, zu, h]
theorem snd_putI {M : zM} {pc idx k : Nat} {cis : List Nat} (hd : decode M.2.1 pc = .ok (.putfield idx, 3)) (hF9 : zPC M idx k false cis .int) : zSnd M pc (oPutI k false cis (pc + 3)) := by
  intro E d Q mc ms c K hK h p e s m args below meth cd X H locs A hR hL hF h1 h2
  obtain ⟨ls, st, σ, bc, bs⟩ := c
  have hx := X.1
  have hb := X.2.1
  have hts := X.2.2.2.2.2.2.1
  have hown := X.2.2.2.2.2.1
  have hSK := X.2.2.2.2.2.2.2.1
  dsimp only [oPutI] at h
  split at h
  · next x n st =>
    obtain ⟨q, q1, q2, -, h⟩ := h
    exact zput (σ' := zI σ (zu (zi σ) n k x)) hx hb hts hown X.2.2.2.2.2.2.2.2 hSK hR hF9 q1 q2 hd (by show Value.int (zu (zi σ) n k x n k) = _; rw [zu_eq]; rfl) rfl rfl rfl rfl (fun a ha => ⟨zu_row ha, rfl, rfl⟩) (fun j b hj => zfv_I b hj) hF (fun H1 locs1 hR hF => hK _ _ h p e s m args below meth cd X H1 locs1 A hR hL hF h1 h2)
  · exact h.elim
theorem snd_putZ {M : zM} {pc idx k : Nat} {cis : List Nat} (hd : decode M.2.1 pc = .ok (.putfield idx, 3)) (hF9 : zPC M idx k false cis .boolean) : zSnd M pc (oPutI k true cis (pc + 3)) := by
  intro E d Q mc ms c K hK h p e s m args below meth cd X H locs A hR hL hF h1 h2
  obtain ⟨ls, st, σ, bc, bs⟩ := c
  have hx := X.1
  have hb := X.2.1
  have hts := X.2.2.2.2.2.2.1
  have hown := X.2.2.2.2.2.1
  have hSK := X.2.2.2.2.2.2.2.1
  dsimp only [oPutI] at h
  split at h
  · next x n st =>
    obtain ⟨q, q1, q2, hz, h⟩ := h
    exact zput (σ' := zI σ (zu (zi σ) n k x)) hx hb hts hown X.2.2.2.2.2.2.2.2 hSK hR hF9 q1 q2 hd (by show Value.int (zu (zi σ) n k x n k) = _; rw [zu_eq]; rfl) (by rcases hz rfl with q | q <;> subst q <;> rfl) (by rcases hz rfl with q | q <;> subst q <;> rfl) rfl rfl (fun a ha => ⟨zu_row ha, rfl, rfl⟩) (fun j b hj => zfv_I b hj) hF (fun H1 locs1 hR hF => hK _ _ h p e s m args below meth cd X H1 locs1 A hR hL hF h1 h2)
  · exact h.elim
theorem snd_putR {M : zM} {pc idx k : Nat} {cis : List Nat} {t : FieldType} (hd : decode M.2.1 pc = .ok (.putfield idx, 3)) (hF9 : zPC M idx k true cis t) (ht : ∀ a : Nat, narrow t (.ref a) = .ref a ∧ fits t (.ref a) = true) : zSnd M pc (oPutR k cis (pc + 3)) := by
  intro E d Q mc ms c K hK h p e s m args below meth cd X H locs A hR hL hF h1 h2
  obtain ⟨ls, st, σ, bc, bs⟩ := c
  have hx := X.1
  have hb := X.2.1
  have hts := X.2.2.2.2.2.2.1
  have hown := X.2.2.2.2.2.1
  have hSK := X.2.2.2.2.2.2.2.1
  dsimp only [oPutR] at h
  split at h
  · next x n st =>
    obtain ⟨q, q1, q2, h⟩ := h
    exact zput (σ' := zR σ (zu (zr σ) n k (some x))) hx hb hts hown X.2.2.2.2.2.2.2.2 hSK hR hF9 q1 q2 hd (by show zrf E (zu (zr σ) n k (some x) n k) = _; rw [zu_eq]; rfl) (ht _).1 (ht _).2 rfl rfl (fun a ha => ⟨rfl, zu_row ha, rfl⟩) (fun j b hj => zfv_R b hj) hF (fun H1 locs1 hR hF => hK _ _ h p e s m args below meth cd X H1 locs1 A hR hL hF h1 h2)
  · exact h.elim
