theorem zent_arr {E : zE} {σ : zS} {n c L : Nat} (hk : zk σ n = (c, L)) (h : c = 16 ∨ c = 17) : zent E σ n = .inl (eC E c, L, .inl (zi σ n)) := by
  unfold zent
  rw [hk]
  rcases h with h | h <;> subst h <;> simp
theorem zent_ref {E : zE} {σ : zS} {n c L : Nat} (hk : zk σ n = (c, L)) (h : c = 18 ∨ c = 19) : zent E σ n = .inl (eC E c, L, .inr (.inr (.inr (.inr (fun j => (zr σ n j).map (zad E)))))) := by
  unfold zent
  rw [hk]
  rcases h with h | h <;> subst h <;> simp
theorem zent_lng {E : zE} {σ : zS} {n L : Nat} (hk : zk σ n = (20, L)) : zent E σ n = .inl (eC E 20, L, .inr (.inl (zl σ n))) := by
  unfold zent
  rw [hk]
  simp
theorem zix {j L : Nat} (hj : j < L) (hL : L ≤ 100000) : vp_in (nI j) L ∧ (nI j).toNatClampNeg = j := ⟨vp_in_nI hj (by omega), nI_clamp (by omega)⟩
/-- an int out of an array (t 16: ints, 17: booleans, 21: read-only ints); a long; a reference -/
def oIald (t nx : Nat) : zOp := fun _ _ _ c K => match c.2.1 with
  | .int i :: .ref n :: st => ∃ j L : Nat, zk c.2.2.1 n = (t, L) ∧ L ≤ 100000 ∧ i = nI j ∧ j < L ∧ K nx (c.1, .int (zi c.2.2.1 n j) :: st, c.2.2)
  | _ => False
def oLald (nx : Nat) : zOp := fun _ _ _ c K => match c.2.1 with
  | .int i :: .ref n :: st => ∃ j L : Nat, zk c.2.2.1 n = (20, L) ∧ L ≤ 100000 ∧ i = nI j ∧ j < L ∧ K nx (c.1, .long (zl c.2.2.1 n j) :: st, c.2.2)
  | _ => False
def oAald (t nx : Nat) : zOp := fun _ _ _ c K => match c.2.1 with
  | .int i :: .ref n :: st => ∃ j L : Nat, zk c.2.2.1 n = (t, L) ∧ L ≤ 100000 ∧ i = nI j ∧ j < L ∧ ∃ o : Option Nat, zr c.2.2.1 n j = o ∧ K nx (c.1, zvr o :: st, c.2.2)
  | _ => False
def oAlen (t nx : Nat) : zOp := fun _ _ _ c K => match c.2.1 with
  | .ref n :: st => ∃ L : Nat, zk c.2.2.1 n = (t, L) ∧ K nx (c.1, .int (nI L) :: st, c.2.2)
  | _ => False
theorem snd_iald {M : zM} {pc : Nat} (hd : decode M.2.1 pc = .ok (.iaload, 1)) : zSnd M pc (oIald 16 (pc + 1)) := by
  intro E d Q mc ms c K hK h p e s m args below meth cd X H locs A hR hL hF h1 h2
  obtain ⟨ls, st, σ, bc, bs⟩ := c
  have hx := X.1
  have hb := X.2.1
  have hts := X.2.2.2.2.2.2.1
  have hown := X.2.2.2.2.2.1
  have hSK := X.2.2.2.2.2.2.2.1
  dsimp only [oIald] at h
  split at h
  · next i n st =>
    obtain ⟨j, L, q1, q2, rfl, q4, h⟩ := h
    have hat := hR.at q1 (by omega)
    rw [zent_arr q1 (Or.inl rfl)] at hat
    refine va_iald hx hb hSK.1 (zP1 hat) 0 0 rfl rfl (zix q4 q2).1 hd ?_
    rw [(zix q4 q2).2]
    exact hK _ _ h p e s m args below meth cd X H locs A hR hL hF h1 h2
  · exact h.elim
theorem snd_zald {M : zM} {pc : Nat} (hd : decode M.2.1 pc = .ok (.baload, 1)) : zSnd M pc (oIald 17 (pc + 1)) := by
  intro E d Q mc ms c K hK h p e s m args below meth cd X H locs A hR hL hF h1 h2
  obtain ⟨ls, st, σ, bc, bs⟩ := c
  have hx := X.1
  have hb := X.2.1
  have hts := X.2.2.2.2.2.2.1
  have hown := X.2.2.2.2.2.1
  have hSK := X.2.2.2.2.2.2.2.1
  dsimp only [oIald] at h
  split at h
  · next i n st =>
    obtain ⟨j, L, q1, q2, rfl, q4, h⟩ := h
    have hat := hR.at q1 (by omega)
    rw [zent_arr q1 (Or.inr rfl)] at hat
    refine va_zald hx hb hSK.1 (zP1 hat) 0 1 rfl rfl (zix q4 q2).1 hd ?_
    rw [(zix q4 q2).2]
    exact hK _ _ h p e s m args below meth cd X H locs A hR hL hF h1 h2
  · exact h.elim
theorem zro {E : zE} {σ : zS} {H : Heap} {s : State} (hR : zRel E σ H) (hSK : zSK E s) {n L : Nat} (hk : zk σ n = (21, L)) : zad E n = eA E n ∧ ∃ scr : Cell, H[eA E n]? = some scr ∧ s.isArrayOf scr .int ∧ scr.vm ≠ .unknown ∧ scr.slots.size = L ∧ ∀ j, j < L → scr.slots[j]? = some (.int (zi σ n j)) := by
  have hn : n < 3 := by
    rcases Nat.lt_or_ge n 3 with q | q
    · exact q
    · exfalso
      rcases Nat.lt_or_ge n (zn σ) with q' | q'
      · have := (hR.2.2.1 n q q').1
        rw [hk] at this
        simp at this
      · have := hR.2.2.2.2.2 n q'
        rw [hk] at this
        simp at this
  obtain ⟨e1, e2⟩ := hR.2.2.2.2.1 n hn
  rw [hk] at e1
  have hL : L = eN E n := by cases e1; rfl
  subst hL
  obtain ⟨⟨scr, g1, g2, g3, g4, g5⟩, hlt⟩ := hSK.2.1 n hn
  refine ⟨by unfold zad; rw [if_pos hn], scr, by rw [hR.2.2.2.1 _ hlt]; exact g1, g2, g3, g4, fun j hj => by rw [g5 j hj, e2 j hj]⟩
theorem snd_rald {M : zM} {pc : Nat} (hd : decode M.2.1 pc = .ok (.iaload, 1)) : zSnd M pc (oIald 21 (pc + 1)) := by
  intro E d Q mc ms c K hK h p e s m args below meth cd X H locs A hR hL hF h1 h2
  obtain ⟨ls, st, σ, bc, bs⟩ := c
  have hx := X.1
  have hb := X.2.1
  have hts := X.2.2.2.2.2.2.1
  have hown := X.2.2.2.2.2.1
  have hSK := X.2.2.2.2.2.2.2.1
  dsimp only [oIald] at h
  split at h
  · next i n st =>
    obtain ⟨j, L, q1, q2, rfl, q4, h⟩ := h
    obtain ⟨ha, scr, g1, g2, g3, g4, g5⟩ := zro hR hSK q1
    have hw := hK _ _ h p e s m args below meth cd X H locs A hR hL hF h1 h2
    dsimp only [List.map, ztr] at hw ⊢
    rw [ha]
    refine W.iald hx hb g1 g2 g3 (by rw [g4]; exact (zix q4 q2).1) (by rw [(zix q4 q2).2]; exact g5 j q4) rfl rfl hd ?_
    exact hw
  · exact h.elim
theorem snd_lald {M : zM} {pc : Nat} (hd : decode M.2.1 pc = .ok (.laload, 1)) : zSnd M pc (oLald (pc + 1)) := by
  intro E d Q mc ms c K hK h p e s m args below meth cd X H locs A hR hL hF h1 h2
  obtain ⟨ls, st, σ, bc, bs⟩ := c
  have hx := X.1
  have hb := X.2.1
  have hts := X.2.2.2.2.2.2.1
  have hown := X.2.2.2.2.2.1
  have hSK := X.2.2.2.2.2.2.2.1
  dsimp only [oLald] at h
  split at h
  · next i n st =>
    obtain ⟨j, L, q1, q2, rfl, q4, h⟩ := h
    have hat := hR.at q1 (by omega)
    rw [zent_lng q1] at hat
    refine va_lald hx hb hSK.1 (zP1 hat) 0 4 rfl rfl (zix q4 q2).1 hd ?_
    rw [(zix q4 q2).2]
    exact hK _ _ h p e s m args below meth cd X H locs A hR hL hF h1 h2
  · exact h.elim
theorem zrf_map {E : zE} (o : Option Nat) : va_rf (o.map (zad E)) = zrf E o := by cases o <;> rfl
theorem snd_aald18 {M : zM} {pc : Nat} (hd : decode M.2.1 pc = .ok (.aaload, 1)) : zSnd M pc (oAald 18 (pc + 1)) := by
  intro E d Q mc ms c K hK h p e s m args below meth cd X H locs A hR hL hF h1 h2
  obtain ⟨ls, st, σ, bc, bs⟩ := c
  have hx := X.1
  have hb := X.2.1
  have hts := X.2.2.2.2.2.2.1
  have hown := X.2.2.2.2.2.1
  have hSK := X.2.2.2.2.2.2.2.1
  dsimp only [oAald] at h
  split at h
  · next i n st =>
    obtain ⟨j, L, q1, q2, rfl, q4, o, q5, h⟩ := h
    have hat := hR.at q1 (by omega)
    rw [zent_ref q1 (Or.inl rfl)] at hat
    have hw := hK _ _ h p e s m args below meth cd X H locs A hR hL hF h1 h2
    dsimp only [List.map] at hw ⊢
    rw [ztr_vr] at hw
    refine va_aldq (C := "SlowerForTheLate$Row") hx hb hSK.1 (zP1 hat) 0 2 rfl rfl (zix q4 q2).1 hd ?_
    rw [(zix q4 q2).2, zrf_map, q5]
    exact hw
  · exact h.elim
theorem snd_aald19 {M : zM} {pc : Nat} (hd : decode M.2.1 pc = .ok (.aaload, 1)) : zSnd M pc (oAald 19 (pc + 1)) := by
  intro E d Q mc ms c K hK h p e s m args below meth cd X H locs A hR hL hF h1 h2
  obtain ⟨ls, st, σ, bc, bs⟩ := c
  have hx := X.1
  have hb := X.2.1
  have hts := X.2.2.2.2.2.2.1
  have hown := X.2.2.2.2.2.1
  have hSK := X.2.2.2.2.2.2.2.1
  dsimp only [oAald] at h
  split at h
  · next i n st =>
    obtain ⟨j, L, q1, q2, rfl, q4, o, q5, h⟩ := h
    have hat := hR.at q1 (by omega)
    rw [zent_ref q1 (Or.inr rfl)] at hat
    have hw := hK _ _ h p e s m args below meth cd X H locs A hR hL hF h1 h2
    dsimp only [List.map] at hw ⊢
    rw [ztr_vr] at hw
    refine va_aldq (C := "SlowerForTheLate$Walker") hx hb hSK.1 (zP1 hat) 0 3 rfl rfl (zix q4 q2).1 hd ?_
    rw [(zix q4 q2).2, zrf_map, q5]
    exact hw
  · exact h.elim
theorem snd_alen {M : zM} {pc : Nat} (hd : decode M.2.1 pc = .ok (.arraylength, 1)) : zSnd M pc (oAlen 16 (pc + 1)) := by
  intro E d Q mc ms c K hK h p e s m args below meth cd X H locs A hR hL hF h1 h2
  obtain ⟨ls, st, σ, bc, bs⟩ := c
  have hx := X.1
  have hb := X.2.1
  have hts := X.2.2.2.2.2.2.1
  have hown := X.2.2.2.2.2.1
  have hSK := X.2.2.2.2.2.2.2.1
  dsimp only [oAlen] at h
  split at h
  · next n st =>
    obtain ⟨L, q1, h⟩ := h
    have hat := hR.at q1 (by omega)
    rw [zent_arr q1 (Or.inl rfl)] at hat
    exact va_alen hx hb hSK.1 (zP1 hat) 0 0 rfl rfl rfl hd (hK _ _ h p e s m args below meth cd X H locs A hR hL hF h1 h2)
  · exact h.elim
theorem snd_rlen {M : zM} {pc : Nat} (hd : decode M.2.1 pc = .ok (.arraylength, 1)) : zSnd M pc (oAlen 21 (pc + 1)) := by
  intro E d Q mc ms c K hK h p e s m args below meth cd X H locs A hR hL hF h1 h2
  obtain ⟨ls, st, σ, bc, bs⟩ := c
  have hx := X.1
  have hb := X.2.1
  have hts := X.2.2.2.2.2.2.1
  have hown := X.2.2.2.2.2.1
  have hSK := X.2.2.2.2.2.2.2.1
  dsimp only [oAlen] at h
  split at h
  · next n st =>
    obtain ⟨L, q1, h⟩ := h
    obtain ⟨ha, scr, g1, g2, g3, g4, g5⟩ := zro hR hSK q1
    have hw := hK _ _ h p e s m args below meth cd X H locs A hR hL hF h1 h2
    dsimp only [List.map, ztr] at hw ⊢
    rw [ha]
    refine W.alen hx hb g1 g2 (n := nI L) (by rw [g4]; rfl) rfl rfl hd ?_
    exact hw
  · exact h.elim
/-- an int, a boolean into an array -/
def oIast (t : Nat) (z : Bool) (nx : Nat) : zOp := fun _ _ _ c K => match c.2.1 with
  | .int x :: .int i :: .ref n :: st => ∃ j L : Nat, zk c.2.2.1 n = (t, L) ∧ L ≤ 100000 ∧ i = nI j ∧ j < L ∧ (z = true → x = 0 ∨ x = 1) ∧ K nx (c.1, st, zI c.2.2.1 (zu (zi c.2.2.1) n j x), c.2.2.2)
  | _ => False
def oLast (nx : Nat) : zOp := fun _ _ _ c K => match c.2.1 with
  | .long x :: .int i :: .ref n :: st => ∃ j L : Nat, zk c.2.2.1 n = (20, L) ∧ L ≤ 100000 ∧ i = nI j ∧ j < L ∧ K nx (c.1, st, zL c.2.2.1 (zu (zl c.2.2.1) n j x), c.2.2.2)
  | _ => False
theorem zlocs {E : zE} {locs : List Loc} {n i : Nat} (hF : ∀ q ∈ locs, eB E ≤ q.base) (h3 : 3 ≤ n) : ∀ q ∈ locs ++ [(⟨zad E n, i⟩ : Loc)], eB E ≤ q.base := fun q hq => by
  rcases List.mem_append.mp hq with z | z
  · exact hF q z
  · rw [List.mem_singleton.mp z]; exact zad_ge h3
theorem snd_iast {M : zM} {pc : Nat} (hd : decode M.2.1 pc = .ok (.iastore, 1)) : zSnd M pc (oIast 16 false (pc + 1)) := by
  intro E d Q mc ms c K hK h p e s m args below meth cd X H locs A hR hL hF h1 h2
  obtain ⟨ls, st, σ, bc, bs⟩ := c
  have hx := X.1
  have hb := X.2.1
  have hts := X.2.2.2.2.2.2.1
  have hown := X.2.2.2.2.2.1
  have hSK := X.2.2.2.2.2.2.2.1
  dsimp only [oIast] at h
  split at h
  · next x i n st =>
    obtain ⟨j, L, q1, q2, rfl, q4, -, h⟩ := h
    have hat := hR.at q1 (by omega)
    have h3 := (hR.in q1 (by omega)).1
    rw [zent_arr q1 (Or.inl rfl)] at hat
    refine W.iast hx hb hat ((hSK.1.2 0 _ rfl).1 L (fun j => .int (zi σ n j))) (fun q => by cases q) (by show ¬ (_ < (0 : Int32) ∨ (arrV _ _ _).slots.size ≤ _); rw [arrV_size]; exact (zix q4 q2).1) rfl rfl hd fun H1 e1 z oq => ?_
    refine hK _ _ h p e s m args below meth cd X H1 _ A ?_ hL (zlocs hF h3) h1 h2
    refine hR.upd h3 z oq ?_ rfl rfl (fun a ha => ⟨zu_row ha, rfl, rfl⟩)
    rw [zent_arr (σ := zI σ (zu (zi σ) n j x)) q1 (Or.inl rfl)]
    show H1[zad E n]? = some (vp_cell _ _)
    rw [e1, (zix q4 q2).2, vp_cell_i, vp_cell_i, arrV_store]
    congr 2
    funext q
    by_cases hq : q = j
    · subst hq; simp [updV, zI, zi, zu]
    · simp [updV, zI, zi, zu, hq]
  · exact h.elim
theorem snd_zast {M : zM} {pc : Nat} (hd : decode M.2.1 pc = .ok (.bastore, 1)) : zSnd M pc (oIast 17 true (pc + 1)) := by
  intro E d Q mc ms c K hK h p e s m args below meth cd X H locs A hR hL hF h1 h2
  obtain ⟨ls, st, σ, bc, bs⟩ := c
  have hx := X.1
  have hb := X.2.1
  have hts := X.2.2.2.2.2.2.1
  have hown := X.2.2.2.2.2.1
  have hSK := X.2.2.2.2.2.2.2.1
  dsimp only [oIast] at h
  split at h
  · next x i n st =>
    obtain ⟨j, L, q1, q2, rfl, q4, hz, h⟩ := h
    have hat := hR.at q1 (by omega)
    have h3 := (hR.in q1 (by omega)).1
    rw [zent_arr q1 (Or.inr rfl)] at hat
    refine W.zast hx hb hat ((hSK.1.2 1 _ rfl).1 L (fun j => .int (zi σ n j))) (fun q => by cases q) (by show ¬ (_ < (0 : Int32) ∨ (arrV _ _ _).slots.size ≤ _); rw [arrV_size]; exact (zix q4 q2).1) rfl rfl hd fun H1 e1 z oq => ?_
    refine hK _ _ h p e s m args below meth cd X H1 _ A ?_ hL (zlocs hF h3) h1 h2
    refine hR.upd h3 z oq ?_ rfl rfl (fun a ha => ⟨zu_row ha, rfl, rfl⟩)
    rw [zent_arr (σ := zI σ (zu (zi σ) n j x)) q1 (Or.inr rfl)]
    show H1[zad E n]? = some (vp_cell _ _)
    have hx9 : narrow .boolean (.int x) = .int x := by rcases hz rfl with q | q <;> subst q <;> rfl
    rw [e1, (zix q4 q2).2, vp_cell_i, vp_cell_i, arrV_store]
    congr 2
    funext q
    by_cases hq : q = j
    · subst hq; simp [updV, zI, zi, zu, hx9]
    · simp [updV, zI, zi, zu, hq]
  · exact h.elim
theorem snd_last {M : zM} {pc : Nat} (hd : decode M.2.1 pc = .ok (.lastore, 1)) : zSnd M pc (oLast (pc + 1)) := by
  intro E d Q mc ms c K hK h p e s m args below meth cd X H locs A hR hL hF h1 h2
  obtain ⟨ls, st, σ, bc, bs⟩ := c
  have hx := X.1
  have hb := X.2.1
  have hts := X.2.2.2.2.2.2.1
  have hown := X.2.2.2.2.2.1
  have hSK := X.2.2.2.2.2.2.2.1
  dsimp only [oLast] at h
  split at h
  · next x i n st =>
    obtain ⟨j, L, q1, q2, rfl, q4, h⟩ := h
    have hat := hR.at q1 (by omega)
    have h3 := (hR.in q1 (by omega)).1
    rw [zent_lng q1] at hat
    refine W.last hx hb hat ((hSK.1.2 4 _ rfl).1 L (fun j => .long (zl σ n j))) (fun q => by cases q) (by show ¬ (_ < (0 : Int32) ∨ (arrV _ _ _).slots.size ≤ _); rw [arrV_size]; exact (zix q4 q2).1) rfl rfl hd fun H1 e1 z oq => ?_
    refine hK _ _ h p e s m args below meth cd X H1 _ A ?_ hL (zlocs hF h3) h1 h2
    refine hR.upd h3 z oq ?_ rfl rfl (fun a ha => ⟨rfl, rfl, zu_row ha⟩)
    rw [zent_lng (σ := zL σ (zu (zl σ) n j x)) q1]
    show H1[zad E n]? = some (vp_cell _ _)
    rw [e1, (zix q4 q2).2, vp_cell_l, vp_cell_l, arrV_store]
    congr 2
    funext q
    by_cases hq : q = j
    · subst hq; simp [updV, zL, zl, zu]
    · simp [updV, zL, zl, zu, hq]
  · exact h.elim
/-- a reference into an array -/
def oAast (t : Nat) (cis : List Nat) (nx : Nat) : zOp := fun _ _ _ c K => match c.2.1 with
  | .ref v :: .int i :: .ref n :: st => ∃ (j L : Nat) (q : Nat × Nat), zk c.2.2.1 n = (t, L) ∧ L ≤ 100000 ∧ i = nI j ∧ j < L ∧ zk c.2.2.1 v = q ∧ zmem q.1 cis = true ∧ K nx (c.1, st, zR c.2.2.1 (zu (zr c.2.2.1) n j (some v)), c.2.2.2)
  | .null :: .int i :: .ref n :: st => ∃ j L : Nat, zk c.2.2.1 n = (t, L) ∧ L ≤ 100000 ∧ i = nI j ∧ j < L ∧ K nx (c.1, st, zR c.2.2.1 (zu (zr c.2.2.1) n j none), c.2.2.2)
  | _ => False
theorem snd_aast18 {M : zM} {pc : Nat} {cis : List Nat} (hd : decode M.2.1 pc = .ok (.aastore, 1)) (hcis : ∀ ci ∈ cis, ∃ C T N ty, zKC ci C T N ty ∧ (C = "SlowerForTheLate$Row" ∨ False)) : zSnd M pc (oAast 18 cis (pc + 1)) := by
  intro E d Q mc ms c K hK h p e s m args below meth cd X H locs A hR hL hF h1 h2
  obtain ⟨ls, st, σ, bc, bs⟩ := c
  have hx := X.1
  have hb := X.2.1
  have hts := X.2.2.2.2.2.2.1
  have hown := X.2.2.2.2.2.1
  have hSK := X.2.2.2.2.2.2.2.1
  dsimp only [oAast] at h
  split at h
  · next v i n st =>
    obtain ⟨j, L, ⟨ci, Lv⟩, q1, q2, rfl, q4, q5, q6, h⟩ := h
    obtain ⟨C, T, N, ty, ⟨g1, g0, -⟩, hC⟩ := hcis ci (zmem_mem q6)
    have hat := hR.at q1 (by omega)
    have h3 := (hR.in q1 (by omega)).1
    rw [zent_ref q1 (Or.inl rfl)] at hat
    have hav := hR.at q5 (by omega)
    rw [zent_obj q5 g0] at hav
    obtain ⟨r', hr', cellV, f1, f2, f3, -⟩ := hav
    cases hr'.symm.trans g1
    have hcls := (hSK.1.1 ci _ g1).2
    obtain ⟨kA, comp, k1, k2, k3, -⟩ := (hSK.1.2 2 _ rfl).2
    obtain ⟨kE, hkE, -⟩ := Vm.findClass_spec k3
    obtain ⟨kC, hkC, -⟩ := hcls.2
    have hasg : s.vm.assignable cellV.cls comp = true := by
      rw [f2]
      rcases hC with hC | hC
      · subst hC
        cases hcls.1.symm.trans k3
        exact va_assign hcls
      · exact hC.elim
    have h0 : ¬ nI j < 0 := fun q => (zix q4 q2).1 (Or.inl q)
    refine W.aast hx hb hat (fun q h => by cases h) (fun h => by cases h) k1 k2 rfl hkE ⟨h0, by show _ < (arrV _ _ _).slots.size; rw [arrV_size, (zix q4 q2).2]; exact q4⟩ f1 (fun q h => by rw [f3] at h; cases h) (by rw [f2]; exact hkC) hasg rfl rfl hd fun H1 e1 z oq => ?_
    refine hK _ _ h p e s m args below meth cd X H1 _ A ?_ hL (zlocs hF h3) h1 h2
    refine hR.upd h3 z oq ?_ rfl rfl (fun a ha => ⟨rfl, zu_row ha, rfl⟩)
    rw [zent_ref (σ := zR σ (zu (zr σ) n j (some v))) q1 (Or.inl rfl)]
    show H1[zad E n]? = some (vp_cell _ _)
    rw [e1, (zix q4 q2).2, vp_cell_q, vp_cell_q, arrV_store]
    congr 2
    funext q
    by_cases hq : q = j
    · subst hq; simp [updV, zR, zr, zu, va_rf, ztr]
    · simp [updV, zR, zr, zu, hq]
  · next i n st =>
    obtain ⟨j, L, q1, q2, rfl, q4, h⟩ := h
    have hat := hR.at q1 (by omega)
    have h3 := (hR.in q1 (by omega)).1
    rw [zent_ref q1 (Or.inl rfl)] at hat
    refine va_WaastN (C := "SlowerForTheLate$Row") hx hb hat ((hSK.1.2 2 _ rfl).1 L (fun j => va_rf ((zr σ n j).map (zad E)))) (fun h => by cases h) (by show ¬ (_ < (0 : Int32) ∨ (arrV _ _ _).slots.size ≤ _); rw [arrV_size]; exact (zix q4 q2).1) rfl rfl hd fun H1 e1 z oq => ?_
    refine hK _ _ h p e s m args below meth cd X H1 _ A ?_ hL (zlocs hF h3) h1 h2
    refine hR.upd h3 z oq ?_ rfl rfl (fun a ha => ⟨rfl, zu_row ha, rfl⟩)
    rw [zent_ref (σ := zR σ (zu (zr σ) n j none)) q1 (Or.inl rfl)]
    show H1[zad E n]? = some (vp_cell _ _)
    rw [e1, (zix q4 q2).2, vp_cell_q, vp_cell_q, arrV_store]
    congr 2
    funext q
    by_cases hq : q = j
    · subst hq; simp [updV, zR, zr, zu, va_rf, ztr]
    · simp [updV, zR, zr, zu, hq]
  · exact h.elim
theorem snd_aast19 {M : zM} {pc : Nat} {cis : List Nat} (hd : decode M.2.1 pc = .ok (.aastore, 1)) (hcis : ∀ ci ∈ cis, ∃ C T N ty, zKC ci C T N ty ∧ (C = "SlowerForTheLate$Walker" ∨ C ∈ zSubs)) : zSnd M pc (oAast 19 cis (pc + 1)) := by
  intro E d Q mc ms c K hK h p e s m args below meth cd X H locs A hR hL hF h1 h2
  obtain ⟨ls, st, σ, bc, bs⟩ := c
  have hx := X.1
  have hb := X.2.1
  have hts := X.2.2.2.2.2.2.1
  have hown := X.2.2.2.2.2.1
  have hSK := X.2.2.2.2.2.2.2.1
  dsimp only [oAast] at h
  split at h
  · next v i n st =>
    obtain ⟨j, L, ⟨ci, Lv⟩, q1, q2, rfl, q4, q5, q6, h⟩ := h
    obtain ⟨C, T, N, ty, ⟨g1, g0, -⟩, hC⟩ := hcis ci (zmem_mem q6)
    have hat := hR.at q1 (by omega)
    have h3 := (hR.in q1 (by omega)).1
    rw [zent_ref q1 (Or.inr rfl)] at hat
    have hav := hR.at q5 (by omega)
    rw [zent_obj q5 g0] at hav
    obtain ⟨r', hr', cellV, f1, f2, f3, -⟩ := hav
    cases hr'.symm.trans g1
    have hcls := (hSK.1.1 ci _ g1).2
    obtain ⟨kA, comp, k1, k2, k3, -⟩ := (hSK.1.2 3 _ rfl).2
    obtain ⟨kE, hkE, -⟩ := Vm.findClass_spec k3
    obtain ⟨kC, hkC, -⟩ := hcls.2
    have hasg : s.vm.assignable cellV.cls comp = true := by
      rw [f2]
      rcases hC with hC | hC
      · subst hC
        cases hcls.1.symm.trans k3
        exact va_assign hcls
      · obtain ⟨c0, t1, z1, z2, z3⟩ := Cond.castable_spec (va_Nw.use (A := args) rfl (hSK.2.2.2.2.2.2.1 C hC))
        cases hcls.1.symm.trans z1
        cases k3.symm.trans z2
        exact z3
    have h0 : ¬ nI j < 0 := fun q => (zix q4 q2).1 (Or.inl q)
    refine W.aast hx hb hat (fun q h => by cases h) (fun h => by cases h) k1 k2 rfl hkE ⟨h0, by show _ < (arrV _ _ _).slots.size; rw [arrV_size, (zix q4 q2).2]; exact q4⟩ f1 (fun q h => by rw [f3] at h; cases h) (by rw [f2]; exact hkC) hasg rfl rfl hd fun H1 e1 z oq => ?_
    refine hK _ _ h p e s m args below meth cd X H1 _ A ?_ hL (zlocs hF h3) h1 h2
    refine hR.upd h3 z oq ?_ rfl rfl (fun a ha => ⟨rfl, zu_row ha, rfl⟩)
    rw [zent_ref (σ := zR σ (zu (zr σ) n j (some v))) q1 (Or.inr rfl)]
    show H1[zad E n]? = some (vp_cell _ _)
    rw [e1, (zix q4 q2).2, vp_cell_q, vp_cell_q, arrV_store]
    congr 2
    funext q
    by_cases hq : q = j
    · subst hq; simp [updV, zR, zr, zu, va_rf, ztr]
    · simp [updV, zR, zr, zu, hq]
  · next i n st =>
    obtain ⟨j, L, q1, q2, rfl, q4, h⟩ := h
    have hat := hR.at q1 (by omega)
    have h3 := (hR.in q1 (by omega)).1
    rw [zent_ref q1 (Or.inr rfl)] at hat
    refine va_WaastN (C := "SlowerForTheLate$Walker") hx hb hat ((hSK.1.2 3 _ rfl).1 L (fun j => va_rf ((zr σ n j).map (zad E)))) (fun h => by cases h) (by show ¬ (_ < (0 : Int32) ∨ (arrV _ _ _).slots.size ≤ _); rw [arrV_size]; exact (zix q4 q2).1) rfl rfl hd fun H1 e1 z oq => ?_
    refine hK _ _ h p e s m args below meth cd X H1 _ A ?_ hL (zlocs hF h3) h1 h2
    refine hR.upd h3 z oq ?_ rfl rfl (fun a ha => ⟨rfl, zu_row ha, rfl⟩)
    rw [zent_ref (σ := zR σ (zu (zr σ) n j none)) q1 (Or.inr rfl)]
    show H1[zad E n]? = some (vp_cell _ _)
    rw [e1, (zix q4 q2).2, vp_cell_q, vp_cell_q, arrV_store]
    congr 2
    funext q
    by_cases hq : q = j
    · subst hq; simp [updV, zR, zr, zu, va_rf, ztr]
    · simp [updV, zR, zr, zu, hq]
  · exact h.elim
