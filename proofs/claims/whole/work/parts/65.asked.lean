/-! bits of people, lists in the order of asking -/
def zbsAll : Bool := (List.range 256).all fun m => (List.range 8).all fun k => decide (0 ≤ zsb (m : Int) (k : Int) ∧ zsb (m : Int) (k : Int) < 256 ∧ 0 ≤ zcb (m : Int) (k : Int) ∧ zcb (m : Int) (k : Int) < 256 ∧ (iI (m : Int) &&& (iI (z2 (k : Int)) ^^^ iI (-1))) = iI (zcb (m : Int) (k : Int))) && (List.range 8).all fun j => decide (zbt (zsb (m : Int) (k : Int)) (j : Int) = (if (j : Int) = (k : Int) then 1 else zbt (m : Int) (j : Int)) ∧ zbt (zcb (m : Int) (k : Int)) (j : Int) = (if (j : Int) = (k : Int) then 0 else zbt (m : Int) (j : Int)))
theorem zbsAll_ok : zbsAll = true := by decide +kernel
theorem zbs_1 {m k : Int} (m0 : 0 ≤ m) (m1 : m < 256) (k0 : 0 ≤ k) (k1 : k < 8) : (0 ≤ zsb m k ∧ zsb m k < 256 ∧ 0 ≤ zcb m k ∧ zcb m k < 256 ∧ (iI m &&& (iI (z2 k) ^^^ iI (-1))) = iI (zcb m k)) ∧ ∀ j : Int, 0 ≤ j → j < 8 → zbt (zsb m k) j = (if j = k then 1 else zbt m j) ∧ zbt (zcb m k) j = (if j = k then 0 else zbt m j) := by
  have a := List.all_eq_true.mp zbsAll_ok m.toNat (List.mem_range.mpr (by omega))
  have b := List.all_eq_true.mp a k.toNat (List.mem_range.mpr (by omega))
  rw [Bool.and_eq_true] at b
  obtain ⟨c, e⟩ := b
  have c := of_decide_eq_true c
  rw [Int.toNat_of_nonneg m0, Int.toNat_of_nonneg k0] at c
  refine ⟨c, fun j j0 j1 => ?_⟩
  have f := of_decide_eq_true (List.all_eq_true.mp e j.toNat (List.mem_range.mpr (by omega)))
  rw [Int.toNat_of_nonneg m0, Int.toNat_of_nonneg k0, Int.toNat_of_nonneg j0] at f
  exact f
/-- the bits of a mask of people -/
def mBt (m : Int) (f : Int → Bool) : Prop := 0 ≤ m ∧ m < 256 ∧ ∀ j : Int, 0 ≤ j → j < 8 → zbt m j = if f j = true then 1 else 0
theorem mBt_un {m n : Int} {f : Int → Bool} (a : mBt m f) (b : mBt n f) : m = n := by
  obtain ⟨a0, a1, a2⟩ := a
  obtain ⟨b0, b1, b2⟩ := b
  have e : ∀ j : Int, 0 ≤ j → j < 8 → zbt m j = zbt n j := fun j j0 j1 => by rw [a2 j j0 j1, b2 j j0 j1]
  have v : z2 0 = 1 ∧ z2 1 = 2 ∧ z2 2 = 4 ∧ z2 3 = 8 ∧ z2 4 = 16 ∧ z2 5 = 32 ∧ z2 6 = 64 ∧ z2 7 = 128 := ⟨rfl, rfl, rfl, rfl, rfl, rfl, rfl, rfl⟩
  obtain ⟨v0, v1, v2, v3, v4, v5, v6, v7⟩ := v
  have e0 := e 0 (by omega) (by omega)
  have e1 := e 1 (by omega) (by omega)
  have e2 := e 2 (by omega) (by omega)
  have e3 := e 3 (by omega) (by omega)
  have e4 := e 4 (by omega) (by omega)
  have e5 := e 5 (by omega) (by omega)
  have e6 := e 6 (by omega) (by omega)
  have e7 := e 7 (by omega) (by omega)
  unfold zbt at e0 e1 e2 e3 e4 e5 e6 e7
  rw [v0] at e0
  rw [v1] at e1
  rw [v2] at e2
  rw [v3] at e3
  rw [v4] at e4
  rw [v5] at e5
  rw [v6] at e6
  rw [v7] at e7
  omega
theorem zmk_bt (f : Int → Bool) : ∀ c : Nat, c ≤ 8 → mBt (zmk f c) (fun j => decide (j < c) && f j)
  | 0, _ => ⟨Int.le_refl _, by show (0 : Int) < 256; omega, fun j j0 j1 => by
      have e : (decide (j < ((0 : Nat) : Int)) && f j) = false := by rw [decide_eq_false (by omega)]; rfl
      show zbt 0 j = if (decide (j < ((0 : Nat) : Int)) && f j) = true then 1 else 0
      rw [e]
      unfold zbt
      rw [Int.zero_ediv]
      rfl⟩
  | c + 1, hc => by
    obtain ⟨i0, i1, i2⟩ := zmk_bt f c (by omega)
    have i2 : ∀ j : Int, 0 ≤ j → j < 8 → zbt (zmk f c) j = if (decide (j < (c : Int)) && f j) = true then 1 else 0 := i2
    obtain ⟨⟨s0, s1, -⟩, s2⟩ := zbs_1 i0 i1 (k := (c : Int)) (by omega) (by omega)
    unfold zmk
    by_cases w : f c = true
    · rw [if_pos w]
      refine ⟨s0, s1, fun j j0 j1 => ?_⟩
      show _ = if (decide (j < ((c + 1 : Nat) : Int)) && f j) = true then 1 else 0
      rw [(s2 j j0 j1).1]
      by_cases q : j = c
      · rw [if_pos q, q, w, decide_eq_true (show (c : Int) < ((c + 1 : Nat) : Int) by omega)]
        rfl
      · rw [if_neg q, i2 j j0 j1]
        by_cases r : j < (c : Int)
        · rw [decide_eq_true r, decide_eq_true (show j < ((c + 1 : Nat) : Int) by omega)]
        · rw [decide_eq_false r, decide_eq_false (show ¬ j < ((c + 1 : Nat) : Int) by omega)]
    · rw [if_neg w]
      refine ⟨i0, i1, fun j j0 j1 => ?_⟩
      show _ = if (decide (j < ((c + 1 : Nat) : Int)) && f j) = true then 1 else 0
      rw [i2 j j0 j1]
      by_cases q : j = c
      · rw [q, decide_eq_false (show ¬ (c : Int) < (c : Int) by omega)]
        have : f c = false := by
          cases e : f c
          · rfl
          · exact absurd e w
        rw [this, Bool.and_false, Bool.and_false]
      · by_cases r : j < (c : Int)
        · rw [decide_eq_true r, decide_eq_true (show j < ((c + 1 : Nat) : Int) by omega)]
        · rw [decide_eq_false r, decide_eq_false (show ¬ j < ((c + 1 : Nat) : Int) by omega)]
theorem mBt_set {m : Int} {f g : Int → Bool} {k : Int} (a : mBt m f) (k0 : 0 ≤ k) (k1 : k < 8) (e : ∀ j : Int, 0 ≤ j → j < 8 → g j = if j = k then true else f j) : mBt (zsb m k) g := by
  obtain ⟨a0, a1, a2⟩ := a
  obtain ⟨⟨s0, s1, -⟩, s2⟩ := zbs_1 a0 a1 k0 k1
  refine ⟨s0, s1, fun j j0 j1 => ?_⟩
  rw [(s2 j j0 j1).1, e j j0 j1]
  by_cases q : j = k
  · rw [if_pos q, if_pos q]; rfl
  · rw [if_neg q, if_neg q]; exact a2 j j0 j1
theorem mBt_clr {m : Int} {f g : Int → Bool} {k : Int} (a : mBt m f) (k0 : 0 ≤ k) (k1 : k < 8) (e : ∀ j : Int, 0 ≤ j → j < 8 → g j = if j = k then false else f j) : mBt (zcb m k) g := by
  obtain ⟨a0, a1, a2⟩ := a
  obtain ⟨⟨-, -, s0, s1, -⟩, s2⟩ := zbs_1 a0 a1 k0 k1
  refine ⟨s0, s1, fun j j0 j1 => ?_⟩
  rw [(s2 j j0 j1).2, e j j0 j1]
  by_cases q : j = k
  · rw [if_pos q, if_pos q]; rfl
  · rw [if_neg q, if_neg q]; exact a2 j j0 j1
theorem mBt_0 {m : Int} {f : Int → Bool} (a : mBt m f) (e : m = 0) : ∀ j : Int, 0 ≤ j → j < 8 → f j = false := fun j j0 j1 => by
  have := a.2.2 j j0 j1
  rw [e] at this
  have z : zbt 0 j = 0 := by unfold zbt; rw [Int.zero_ediv]; rfl
  rw [z] at this
  cases h : f j
  · rfl
  · rw [h, if_pos rfl] at this
    omega
/-! the order of asking -/
def kY (p : Int → Int) (t : Int) : Int := 1000 * pRk p t + pCm p t
theorem pAh_k {p : Int → Int} (hp : pOK p) {t q : Int} (t0 : 0 ≤ t) (t1 : t < 8) (q0 : 0 ≤ q) (qt : q < t) : pAh p t q ↔ kY p t < kY p q := by
  have a := pCm_b hp t0 t1
  have b := pCm_b hp q0 (by omega)
  unfold pAh kY
  omega
/-- the first n places of an array, the last first -/
def rl (a : Int → Int) : Nat → List Int
  | 0 => []
  | n + 1 => a n :: rl a n
theorem rl_cg {a b : Int → Int} : ∀ n : Nat, (∀ j : Int, 0 ≤ j → j < n → a j = b j) → rl a n = rl b n
  | 0, _ => rfl
  | n + 1, e => by
    unfold rl
    rw [rl_cg n (fun j j0 j1 => e j j0 (by omega)), e n (by omega) (by omega)]
theorem rl_mem {a : Int → Int} {q : Int} : ∀ n : Nat, q ∈ rl a n → ∃ j : Int, 0 ≤ j ∧ j < n ∧ a j = q
  | 0, h => by cases h
  | n + 1, h => by
    rcases List.mem_cons.mp h with e | e
    · exact ⟨n, by omega, by omega, e.symm⟩
    · obtain ⟨j, j0, j1, j2⟩ := rl_mem n e
      exact ⟨j, j0, by omega, j2⟩
/-- t is put in, from the last on, behind those that aren't behind it -/
def inR (K : Int → Int) (t : Int) : List Int → List Int
  | [] => [t]
  | q :: L => if K t < K q then q :: inR K t L else t :: q :: L
theorem inR_mem {K : Int → Int} {t q : Int} : ∀ L : List Int, q ∈ inR K t L ↔ q = t ∨ q ∈ L
  | [] => by simp [inR]
  | r :: L => by
    have i := inR_mem (K := K) (t := t) (q := q) L
    unfold inR
    split
    · rw [List.mem_cons, i, List.mem_cons]
      constructor
      · rintro (e | e | e)
        · exact Or.inr (Or.inl e)
        · exact Or.inl e
        · exact Or.inr (Or.inr e)
      · rintro (e | e | e)
        · exact Or.inr (Or.inl e)
        · exact Or.inl e
        · exact Or.inr (Or.inr e)
    · rw [List.mem_cons, List.mem_cons]
/-- in order: no one of the tail is behind the head -/
def sO (K : Int → Int) : List Int → Prop
  | [] => True
  | q :: L => (∀ r ∈ L, K r ≤ K q) ∧ sO K L
theorem inR_sO {K : Int → Int} {t : Int} : ∀ L : List Int, sO K L → sO K (inR K t L)
  | [], _ => ⟨fun r h => (by cases h), trivial⟩
  | q :: L, h => by
    unfold inR
    split
    · rename_i w
      refine ⟨fun r hr => ?_, inR_sO L h.2⟩
      rcases (inR_mem L).mp hr with e | e
      · rw [e]; omega
      · exact h.1 r e
    · rename_i w
      refine ⟨fun r hr => ?_, h⟩
      rcases List.mem_cons.mp hr with e | e
      · rw [e]; omega
      · have := h.1 r e
        omega
theorem inR_fi {K : Int → Int} {t : Int} {f : Int → Bool} : ∀ L : List Int, sO K L → (inR K t L).filter f = if f t = true then inR K t (L.filter f) else L.filter f
  | [], _ => by
    unfold inR
    by_cases w : f t = true
    · rw [if_pos w]; simp [w, inR]
    · rw [if_neg w]; simp [w]
  | q :: L, h => by
    have i := inR_fi (K := K) (t := t) (f := f) L h.2
    have e0 : inR K t (q :: L) = if K t < K q then q :: inR K t L else t :: q :: L := rfl
    rw [e0]
    by_cases w : K t < K q
    · rw [if_pos w]
      by_cases u : f q = true
      · rw [List.filter_cons_of_pos u, List.filter_cons_of_pos u, i]
        by_cases v : f t = true
        · rw [if_pos v, if_pos v]
          show _ = if K t < K q then q :: inR K t (L.filter f) else _
          rw [if_pos w]
        · rw [if_neg v, if_neg v]
      · rw [List.filter_cons_of_neg u, List.filter_cons_of_neg u, i]
    · rw [if_neg w]
      by_cases v : f t = true
      · rw [if_pos v, List.filter_cons_of_pos v]
        have hd : ∀ M : List Int, (∀ r ∈ M, K r ≤ K q) → inR K t M = t :: M := fun M hM => by
          cases M with
          | nil => rfl
          | cons r M =>
            show (if K t < K r then _ else t :: r :: M) = _
            rw [if_neg]
            have := hM r List.mem_cons_self
            omega
        rw [hd]
        intro r hr
        have := (List.mem_filter.mp hr).1
        rcases List.mem_cons.mp this with e | e
        · rw [e]; omega
        · exact h.1 r e
      · rw [if_neg v, List.filter_cons_of_neg v]
theorem rl_in {p a : Int → Int} (hp : pOK p) {t : Int} (t1 : t < 8) : ∀ n : Nat, (∀ j : Int, 0 ≤ j → j < n → 0 ≤ a j ∧ a j < t) → rl (insA a n t (zpos p a t n)) (n + 1) = inR (kY p) t (rl a n)
  | 0, _ => rfl
  | n + 1, ha => by
    have i := rl_in hp t1 n (fun j j0 j1 => ha j j0 (by omega))
    obtain ⟨b0, b1⟩ := ha n (by omega) (by omega)
    have ex := pAh_k hp (t := t) (q := a n) (by omega) t1 b0 b1
    have le := zpos_le (p := p) (a := a) (t := t) n
    have ez : zpos p a t (n + 1) = if pAh p t (a n) then zpos p a t n else n + 1 := rfl
    have er : inR (kY p) t (rl a (n + 1)) = if kY p t < kY p (a n) then a n :: inR (kY p) t (rl a n) else t :: rl a (n + 1) := rfl
    rw [er]
    by_cases w : pAh p t (a n)
    · rw [ez, if_pos w, if_pos (ex.mp w), ← i]
      have e1 : insA a (n + 1) t (zpos p a t n) ((n + 1 : Nat) : Int) = a n := by
        unfold insA shA
        rw [if_neg (by omega), if_pos (by omega)]
        congr 1
        omega
      have e2 : rl (insA a (n + 1) t (zpos p a t n)) (n + 1) = rl (insA a n t (zpos p a t n)) (n + 1) := rl_cg _ fun j j0 j1 => by
        unfold insA
        by_cases c : j = (zpos p a t n : Int)
        · rw [if_pos c, if_pos c]
        · rw [if_neg c, if_neg c]
          unfold shA
          by_cases d : ((zpos p a t n : Nat) : Int) < j ∧ j ≤ (n : Int)
          · rw [if_pos d, if_pos (by omega)]
          · rw [if_neg d, if_neg (by omega)]
      show insA a (n + 1) t (zpos p a t n) ((n + 1 : Nat) : Int) :: rl (insA a (n + 1) t (zpos p a t n)) (n + 1) = _
      rw [e1, e2]
    · rw [ez, if_neg w, if_neg (fun z => w (ex.mpr z))]
      have e1 : insA a (n + 1) t (n + 1) ((n + 1 : Nat) : Int) = t := by
        unfold insA
        rw [if_pos rfl]
      have e2 : rl (insA a (n + 1) t (n + 1)) (n + 1) = rl a (n + 1) := rl_cg _ fun j j0 j1 => by
        unfold insA shA
        rw [if_neg (by omega), if_neg (by omega)]
      show insA a (n + 1) t (n + 1) ((n + 1 : Nat) : Int) :: rl (insA a (n + 1) t (n + 1)) (n + 1) = _
      rw [e1, e2]
/-- all but w, in the order of asking, of the first c -/
def fL (p : Int → Int) (w : Int) : Nat → List Int
  | 0 => []
  | c + 1 => if (c : Int) = w then fL p w c else inR (kY p) c (fL p w c)
theorem fL_in {p : Int → Int} {w : Int} : ∀ c : Nat, sO (kY p) (fL p w c) ∧ (∀ q ∈ fL p w c, 0 ≤ q ∧ q < c ∧ ¬ q = w) ∧ (fL p w c).Nodup
  | 0 => ⟨trivial, fun q h => (by cases h), List.nodup_nil⟩
  | c + 1 => by
    obtain ⟨i1, i2, i3⟩ := fL_in (p := p) (w := w) c
    unfold fL
    split
    · exact ⟨i1, fun q hq => by have := i2 q hq; omega, i3⟩
    · rename_i u
      refine ⟨inR_sO _ i1, fun q hq => ?_, ?_⟩
      · rcases (inR_mem _).mp hq with e | e
        · rw [e]; exact ⟨by omega, by omega, u⟩
        · have := i2 q e; omega
      · have nd : ∀ L : List Int, L.Nodup → ¬ (c : Int) ∈ L → (inR (kY p) c L).Nodup := fun L => by
          induction L with
          | nil => intro _ _; simp [inR]
          | cons q L ih =>
            intro h1 h2
            have h3 := List.nodup_cons.mp h1
            unfold inR
            split
            · refine List.nodup_cons.mpr ⟨fun m => ?_, ih h3.2 (fun m => h2 (List.mem_cons_of_mem _ m))⟩
              rcases (inR_mem L).mp m with e | e
              · exact h2 (by rw [← e]; exact List.mem_cons_self)
              · exact h3.1 e
            · exact List.nodup_cons.mpr ⟨h2, h1⟩
        exact nd _ i3 (fun m => by have := (i2 _ m).2.1; omega)
/-- the reference's list is what is left of all -/
theorem sAs_rl {x : Int} {h : Nat → Int → Int} (hp : pOK (h 60)) : ∀ c : Nat, c ≤ 8 → rl (sAs x h c).2 (sAs x h c).1 = (fL (h 60) (h 59 17) c).filter (fun q => decide (h 69 q < 0 ∧ pFr (h 60) q = h 63 x))
  | 0, _ => rfl
  | c + 1, hc => by
    have i := sAs_rl (x := x) hp c (by omega)
    obtain ⟨l1, l2, l3⟩ := fL_in (p := h 60) (w := h 59 17) c
    have mem := sAs_mem (x := x) (h := h) c
    show rl (sAs1 x h c (sAs x h c)).2 (sAs1 x h c (sAs x h c)).1 = _
    generalize sAs x h c = u at *
    unfold sAs1 fL
    by_cases w : (c : Int) = h 59 17
    · rw [if_pos w, if_neg (fun z => z.1 w)]
      exact i
    · rw [if_neg w, inR_fi _ l1]
      by_cases v : h 69 c < 0 ∧ pFr (h 60) c = h 63 x
      · rw [if_pos ⟨w, v⟩, if_pos (decide_eq_true v), ← i]
        exact rl_in hp (by omega) u.1 (fun j j0 j1 => ⟨(mem j j0 j1).1.1, (mem j j0 j1).1.2⟩)
      · rw [if_neg (fun z => v z.2), if_neg (by rw [decide_eq_false v]; exact Bool.false_ne_true)]
        exact i
/-- tries along a list, the last first of the list -/
abbrev fT (x : Int) (h : Nat → Int → Int) (L : List Int) : Nat → Int → Int := L.foldr (fun q s => sTry x q s) h
theorem sTz_rl {x : Int} {a : Int → Int} {h : Nat → Int → Int} : ∀ c : Nat, sTz x a h c = fT x h (rl a c)
  | 0 => rfl
  | c + 1 => by
    show sTry x (a c) (sTz x a h c) = sTry x (a c) (fT x h (rl a c))
    rw [sTz_rl c]
/-- tries along a list of those who come from a and are not on yet -/
abbrev fC (x a : Int) (h : Nat → Int → Int) (L : List Int) : Nat → Int → Int := L.foldr (fun q s => if s 69 q < 0 ∧ pFr (h 60) q = a then sTry x q s else s) h
theorem fC_fr {x a : Int} {h : Nat → Int → Int} {q : Int} : ∀ L : List Int, ¬ q ∈ L → fC x a h L 69 q = h 69 q
  | [], _ => rfl
  | r :: L, hq => by
    have i := fC_fr (x := x) (a := a) (h := h) (q := q) L (fun m => hq (List.mem_cons_of_mem _ m))
    show (if fC x a h L 69 r < 0 ∧ pFr (h 60) r = a then sTry x r (fC x a h L) else fC x a h L) 69 q = _
    split
    · rw [sTry_fr (Or.inl rfl) (fun e => hq (by rw [e]; exact List.mem_cons_self)), i]
    · exact i
theorem fC_fT {x a : Int} {h : Nat → Int → Int} : ∀ L : List Int, L.Nodup → fC x a h L = fT x h (L.filter (fun q => decide (h 69 q < 0 ∧ pFr (h 60) q = a)))
  | [], _ => rfl
  | r :: L, hn => by
    have hn := List.nodup_cons.mp hn
    have i := fC_fT (x := x) (a := a) (h := h) L hn.2
    show (if fC x a h L 69 r < 0 ∧ pFr (h 60) r = a then sTry x r (fC x a h L) else fC x a h L) = _
    rw [fC_fr L hn.1]
    by_cases w : h 69 r < 0 ∧ pFr (h 60) r = a
    · rw [if_pos w, List.filter_cons_of_pos (p := fun q => decide (h 69 q < 0 ∧ pFr (h 60) q = a)) (decide_eq_true w), i]
      rfl
    · rw [if_neg w, List.filter_cons_of_neg (p := fun q => decide (h 69 q < 0 ∧ pFr (h 60) q = a)) (by rw [decide_eq_false w]; exact Bool.false_ne_true), i]
