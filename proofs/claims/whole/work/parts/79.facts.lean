/-! facts of an event -/
theorem fC_fr2 {x a : Int} {h : Nat → Int → Int} {q : Int} {n : Nat} (hn : nF n) : ∀ L : List Int, ¬ q ∈ L → fC x a h L n q = h n q
  | [], _ => rfl
  | r :: L, hq => by
    have i := fC_fr2 (x := x) (a := a) (h := h) (q := q) hn L (fun m => hq (List.mem_cons_of_mem _ m))
    show (if fC x a h L 69 r < 0 ∧ pFr (h 60) r = a then sTry x r (fC x a h L) else fC x a h L) n q = _
    split
    · rw [sTry_fr hn (fun e => hq (by rw [e]; exact List.mem_cons_self)), i]
    · exact i
theorem sTry_at {x q : Int} {G : Nat → Int → Int} : (sTry x q G 69 q = x ∧ sTry x q G 72 q = G 72 q ∧ sTry x q G 73 q = G 73 q) ∨ (sTry x q G 69 q = G 69 q ∧ sTry x q G 72 q = G 72 q ∧ sTry x q G 73 q = G 73 q) ∨ (sTry x q G 69 q = G 69 q ∧ sTry x q G 72 q = zsb (G 72 q) x ∧ sTry x q G 73 q = G 73 q + 1) := by
  unfold sTry
  split
  · exact Or.inl ⟨by show (if q = q then x else _) = x; exact if_pos rfl, rfl, rfl⟩
  · split
    · split
      · exact Or.inr (Or.inl ⟨rfl, rfl, rfl⟩)
      · exact Or.inr (Or.inl ⟨rfl, rfl, rfl⟩)
    · split
      · exact Or.inr (Or.inr ⟨rfl, by show (if q = q then zsb (G 72 q) x else _) = _; exact if_pos rfl, by show (if q = q then G 73 q + 1 else _) = _; exact if_pos rfl⟩)
      · exact Or.inr (Or.inr ⟨rfl, by show (if q = q then zsb (G 72 q) x else _) = _; exact if_pos rfl, by show (if q = q then G 73 q + 1 else _) = _; exact if_pos rfl⟩)
theorem fC_at {x a q : Int} {h : Nat → Int → Int} : ∀ L : List Int, L.Nodup → (fC x a h L 69 q = h 69 q ∧ fC x a h L 72 q = h 72 q ∧ fC x a h L 73 q = h 73 q) ∨ (q ∈ L ∧ h 69 q < 0 ∧ pFr (h 60) q = a ∧ ((fC x a h L 69 q = x ∧ fC x a h L 72 q = h 72 q ∧ fC x a h L 73 q = h 73 q) ∨ (fC x a h L 69 q = h 69 q ∧ fC x a h L 72 q = zsb (h 72 q) x ∧ fC x a h L 73 q = h 73 q + 1)))
  | [], _ => Or.inl ⟨rfl, rfl, rfl⟩
  | r :: L, hn => by
    have hn := List.nodup_cons.mp hn
    have i := fC_at (x := x) (a := a) (q := q) (h := h) L hn.2
    have ef : fC x a h (r :: L) = if fC x a h L 69 r < 0 ∧ pFr (h 60) r = a then sTry x r (fC x a h L) else fC x a h L := rfl
    rw [ef]
    by_cases c : fC x a h L 69 r < 0 ∧ pFr (h 60) r = a
    · rw [if_pos c]
      by_cases e : q = r
      · subst e
        have f9 := fC_fr2 (x := x) (a := a) (h := h) (n := 69) (Or.inl rfl) L hn.1
        have f2 := fC_fr2 (x := x) (a := a) (h := h) (n := 72) (Or.inr (Or.inr (Or.inl rfl))) L hn.1
        have f3 := fC_fr2 (x := x) (a := a) (h := h) (n := 73) (Or.inr (Or.inr (Or.inr (Or.inl rfl)))) L hn.1
        have t := sTry_at (x := x) (q := q) (G := fC x a h L)
        rw [f9] at c
        rw [f9, f2, f3] at t
        rcases t with t | t | t
        · exact Or.inr ⟨List.mem_cons_self, c.1, c.2, Or.inl t⟩
        · exact Or.inl t
        · exact Or.inr ⟨List.mem_cons_self, c.1, c.2, Or.inr t⟩
      · rw [sTry_fr (Or.inl rfl) e, sTry_fr (Or.inr (Or.inr (Or.inl rfl))) e, sTry_fr (Or.inr (Or.inr (Or.inr (Or.inl rfl)))) e]
        rcases i with i | ⟨i1, i2⟩
        · exact Or.inl i
        · exact Or.inr ⟨List.mem_cons_of_mem _ i1, i2⟩
    · rw [if_neg c]
      rcases i with i | ⟨i1, i2⟩
      · exact Or.inl i
      · exact Or.inr ⟨List.mem_cons_of_mem _ i1, i2⟩
theorem sGO_at {x q : Int} {h : Nat → Int → Int} (q0 : 0 ≤ q) : ∀ c : Nat, sGO x h c 71 q = if q < c ∧ h 69 q = x ∧ h 71 q < 0 ∧ pOf (h 60) q = h 63 x then h 64 x else h 71 q
  | 0 => (if_neg (by omega)).symm
  | c + 1 => by
    have i := sGO_at (x := x) (h := h) q0 c
    have f := sGO_69 (x := x) (h := h) c
    show sGO1 x c (sGO x h c) 71 q = _
    unfold sGO1
    rw [f.1, f.2 60 (by omega), f.2 63 (by omega), f.2 64 (by omega)]
    by_cases e : q = c
    · have i2 : sGO x h c 71 q = h 71 q := i.trans (if_neg (by omega))
      rw [← e, i2]
      by_cases z : h 69 q = x ∧ h 71 q < 0 ∧ pOf (h 60) q = h 63 x
      · rw [if_pos z, if_pos ⟨by omega, z⟩]
        show (if q = q then h 64 x else _) = _
        exact if_pos rfl
      · rw [if_neg z, if_neg (fun y => z y.2), i2]
    · have i3 : sGO x h c 71 q = if q < ((c + 1 : Nat) : Int) ∧ h 69 q = x ∧ h 71 q < 0 ∧ pOf (h 60) q = h 63 x then h 64 x else h 71 q := by
        rw [i]
        by_cases z : q < (c : Int) ∧ h 69 q = x ∧ h 71 q < 0 ∧ pOf (h 60) q = h 63 x
        · rw [if_pos z, if_pos ⟨by omega, z.2⟩]
        · rw [if_neg z, if_neg (fun y => z ⟨by omega, y.2⟩)]
      rw [← i3]
      split
      · show (if q = (c : Int) then _ else sGO x h c 71 q) = _
        rw [if_neg e]
      · rfl
theorem fC_71 {x a : Int} {h : Nat → Int → Int} : ∀ L : List Int, fC x a h L 71 = h 71
  | [] => rfl
  | r :: L => by
    have i := fC_71 (x := x) (a := a) (h := h) L
    show (if fC x a h L 69 r < 0 ∧ pFr (h 60) r = a then sTry x r (fC x a h L) else fC x a h L) 71 = _
    split
    · rw [← i]
      generalize fC x a h L = G
      unfold sTry
      split
      · rfl
      · split
        · split <;> rfl
        · split <;> rfl
    · exact i
/-- what an event does to one -/
theorem eV {p : Int → Int} {w x a : Int} {h : Nat → Int → Int} (hd : dP h) (e6 : h 60 = p) (ew : h 59 17 = w) (ha : h 63 x = a) (h4 : zb (h 64 x)) (x0 : 0 ≤ x) (x1 : x < 12) (hf : ∀ q : Int, 0 ≤ q → q < p 6 → ¬ pFr p q = 4) (a0 : 0 ≤ a) (a4 : a ≤ 4) {q : Int} (q0 : 0 ≤ q) (q1 : q < p 6) :
    (sStop x h 71 q = if h 69 q = x ∧ h 71 q < 0 ∧ pOf p q = a then h 64 x else h 71 q) ∧ ((sStop x h 69 q = h 69 q ∧ sStop x h 72 q = h 72 q ∧ sStop x h 73 q = h 73 q) ∨ (¬ q = w ∧ h 69 q < 0 ∧ pFr p q = a ∧ ((sStop x h 69 q = x ∧ sStop x h 72 q = h 72 q ∧ sStop x h 73 q = h 73 q) ∨ (sStop x h 69 q = h 69 q ∧ sStop x h 72 q = zsb (h 72 q) x ∧ sStop x h 73 q = h 73 q + 1)))) := by
  obtain ⟨s1, -⟩ := sStop_F (p := p) (w := w) (a := a) hd e6 ew ha h4 x0 x1 (fun _ => hf) a4
  rw [congrFun (s1 71 (by omega) (by omega) (by omega) (by omega) (by omega)) q, congrFun (s1 69 (by omega) (by omega) (by omega) (by omega) (by omega)) q, congrFun (s1 72 (by omega) (by omega) (by omega) (by omega) (by omega)) q, congrFun (s1 73 (by omega) (by omega) (by omega) (by omega) (by omega)) q]
  have fl := fL_in (p := p) (w := w) (p 6).toNat
  obtain ⟨n1, n2, -⟩ := sS2_n (x := x) (H := h)
  refine ⟨?_, ?_⟩
  · unfold sF
    rw [fC_71]
    unfold sS2
    rw [sGO_at q0]
    have np : nP h = (p 6).toNat := by unfold nP; rw [e6]
    have E : (q < (nP h : Int) ∧ zv (zv h 59 19 0) 67 (5 * x + h 63 x) (h 64 x) 69 q = x ∧ zv (zv h 59 19 0) 67 (5 * x + h 63 x) (h 64 x) 71 q < 0 ∧ pOf (zv (zv h 59 19 0) 67 (5 * x + h 63 x) (h 64 x) 60) q = zv (zv h 59 19 0) 67 (5 * x + h 63 x) (h 64 x) 63 x) ↔ (h 69 q = x ∧ h 71 q < 0 ∧ pOf p q = a) := by
      show (q < (nP h : Int) ∧ h 69 q = x ∧ h 71 q < 0 ∧ pOf (h 60) q = h 63 x) ↔ _
      rw [e6, ha, np]
      exact ⟨fun z => z.2, fun z => ⟨by omega, z⟩⟩
    by_cases z : h 69 q = x ∧ h 71 q < 0 ∧ pOf p q = a
    · rw [if_pos (E.mpr z), if_pos z]
      rfl
    · rw [if_neg (fun y => z (E.mp y)), if_neg z]
      rfl
  · have t := fC_at (x := x) (a := a) (q := q) (h := sS2 x h) (fL p w (p 6).toNat) fl.2.2
    rw [n1, n2 72 (by omega), n2 73 (by omega), n2 60 (by omega), e6] at t
    rcases t with t | ⟨t1, t2, t3, t4⟩
    · exact Or.inl t
    · exact Or.inr ⟨(fl.2.1 q t1).2.2, t2, t3, t4⟩
