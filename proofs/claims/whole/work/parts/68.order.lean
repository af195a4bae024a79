/-! the order of trains -/
/-- the train t comes ahead of q at the stop a -/
abbrev qA (g : Nat → Int → Int) (a t q : Int) : Prop := g 49 (5 * t + a) < g 49 (5 * q + a) ∨ (g 49 (5 * t + a) = g 49 (5 * q + a) ∧ t < q)
theorem ct_isAhead {E : zE} {d : Nat} {k : Nat → Nat × Nat} {h : Nat → Int → Int} {r : Nat → Int → Option Nat} {l : Nat → Nat → Int64} {n : Nat} {t q a : Int} (t0 : 0 ≤ t) (t1 : t < 12) (q0 : 0 ≤ q) (q1 : q < 12) (a0 : 0 ≤ a) (a1 : a < 5) (zt : zb (h 49 (5 * t + a))) (zq : zb (h 49 (5 * q + a))) : zCT E d M_X9_isAhead [.ref 37, .int (iI (t)), .int (iI (q)), .int (iI (a))] (zJ (k, h, r, l, n)) 0 0 (zV (.int (iI (if qA h a t q then 1 else 0))) (zJ (k, h, r, l, n))) := by
  have ok := ok_X9_isAhead
  refine zCT_of pn_X9_isAhead (Nat.le_of_ble_eq_true rfl) ?_
  show zGo _ _ _ _ _ _ 0 ([some (.ref 37), some (.int (iI (t))), some (.int (iI (q))), some (.int (iI (a))), none, none], [], _, _, _)
  refine s_ldA0 ok rfl ?_
  refine s_getF ok rfl rfl rfl rfl ?_
  refine s_ci ok rfl ?_
  refine s_ldI1 ok rfl ?_
  refine s_mul ok rfl ?_
  refine s_ldI3 ok rfl ?_
  refine s_add ok rfl ?_
  refine s_iald ok rfl (by exact rfl) (by exact rfl) (by omega) (by omega) ?_
  refine s_stI4 ok rfl rfl ?_
  refine s_ldA0 ok rfl ?_
  refine s_getF ok rfl rfl rfl rfl ?_
  refine s_ci ok rfl ?_
  refine s_ldI2 ok rfl ?_
  refine s_mul ok rfl ?_
  refine s_ldI3 ok rfl ?_
  refine s_add ok rfl ?_
  refine s_iald ok rfl (by exact rfl) (by exact rfl) (by omega) (by omega) ?_
  refine s_stI5 ok rfl rfl ?_
  refine s_ldI4 ok rfl ?_
  refine s_ldI5 ok rfl ?_
  refine s_c_lt ok rfl zt zq (fun c28 => ?_) (fun c28 => ?_)
  · refine s_ci ok rfl ?_
    refine s_goto ok rfl ?_
    refine s_retZ ok rfl (by first | exact Or.inl rfl | exact Or.inr rfl) ⟨congrArg (fun z => some (Value.int (iI z))) (by first | exact (if_pos (by unfold qA; omega)).symm | exact (if_neg (by unfold qA; omega)).symm), rfl⟩
  · refine s_ldI4 ok rfl ?_
    refine s_ldI5 ok rfl ?_
    refine s_c_eq ok rfl zt zq (fun c35 => ?_) (fun c35 => ?_)
    · refine s_ldI1 ok rfl ?_
      refine s_ldI2 ok rfl ?_
      refine s_c_ge ok rfl ⟨by omega, by omega⟩ ⟨by omega, by omega⟩ (fun c40 => ?_) (fun c40 => ?_)
      · refine s_ci ok rfl ?_
        refine s_retZ ok rfl (by first | exact Or.inl rfl | exact Or.inr rfl) ⟨congrArg (fun z => some (Value.int (iI z))) (by first | exact (if_pos (by unfold qA; omega)).symm | exact (if_neg (by unfold qA; omega)).symm), rfl⟩
      · refine s_ci ok rfl ?_
        refine s_goto ok rfl ?_
        refine s_retZ ok rfl (by first | exact Or.inl rfl | exact Or.inr rfl) ⟨congrArg (fun z => some (Value.int (iI z))) (by first | exact (if_pos (by unfold qA; omega)).symm | exact (if_neg (by unfold qA; omega)).symm), rfl⟩
    · refine s_ci ok rfl ?_
      refine s_retZ ok rfl (by first | exact Or.inl rfl | exact Or.inr rfl) ⟨congrArg (fun z => some (Value.int (iI z))) (by first | exact (if_pos (by unfold qA; omega)).symm | exact (if_neg (by unfold qA; omega)).symm), rfl⟩
def zpB (B : Int → Bool) (a : Int → Int) : Nat → Nat
  | 0 => 0
  | n + 1 => if B (a n) = true then zpB B a n else n + 1
theorem zpB_le {B : Int → Bool} {a : Int → Int} : ∀ n, zpB B a n ≤ n
  | 0 => Nat.le_refl _
  | n + 1 => by
    unfold zpB
    split
    · have := zpB_le (B := B) (a := a) n; omega
    · omega
def inB (B : Int → Bool) (t : Int) : List Int → List Int
  | [] => [t]
  | q :: L => if B q = true then q :: inB B t L else t :: q :: L
theorem rl_inB {a : Int → Int} {B : Int → Bool} {t : Int} : ∀ n : Nat, rl (insA a n t (zpB B a n)) (n + 1) = inB B t (rl a n)
  | 0 => rfl
  | n + 1 => by
    have i := rl_inB (a := a) (B := B) (t := t) n
    have le := zpB_le (B := B) (a := a) n
    have ez : zpB B a (n + 1) = if B (a n) = true then zpB B a n else n + 1 := rfl
    have er : inB B t (rl a (n + 1)) = if B (a n) = true then a n :: inB B t (rl a n) else t :: rl a (n + 1) := rfl
    rw [er]
    by_cases w : B (a n) = true
    · rw [ez, if_pos w, if_pos w, ← i]
      have e1 : insA a (n + 1) t (zpB B a n) ((n + 1 : Nat) : Int) = a n := by
        unfold insA shA
        rw [if_neg (by omega), if_pos (by omega)]
        congr 1
        omega
      have e2 : rl (insA a (n + 1) t (zpB B a n)) (n + 1) = rl (insA a n t (zpB B a n)) (n + 1) := rl_cg _ fun j j0 j1 => by
        unfold insA
        by_cases c : j = (zpB B a n : Int)
        · rw [if_pos c, if_pos c]
        · rw [if_neg c, if_neg c]
          unfold shA
          by_cases d : ((zpB B a n : Nat) : Int) < j ∧ j ≤ (n : Int)
          · rw [if_pos d, if_pos (by omega)]
          · rw [if_neg d, if_neg (by omega)]
      show insA a (n + 1) t (zpB B a n) ((n + 1 : Nat) : Int) :: rl (insA a (n + 1) t (zpB B a n)) (n + 1) = _
      rw [e1, e2]
    · rw [ez, if_neg w, if_neg w]
      have e1 : insA a (n + 1) t (n + 1) ((n + 1 : Nat) : Int) = t := by
        unfold insA
        rw [if_pos rfl]
      have e2 : rl (insA a (n + 1) t (n + 1)) (n + 1) = rl a (n + 1) := rl_cg _ fun j j0 j1 => by
        unfold insA shA
        rw [if_neg (by omega), if_neg (by omega)]
      show insA a (n + 1) t (n + 1) ((n + 1 : Nat) : Int) :: rl (insA a (n + 1) t (n + 1)) (n + 1) = _
      rw [e1, e2]
theorem inB_mem {B : Int → Bool} {t q : Int} : ∀ L : List Int, q ∈ inB B t L ↔ q = t ∨ q ∈ L
  | [] => by simp [inB]
  | r :: L => by
    have i := inB_mem (B := B) (t := t) (q := q) L
    unfold inB
    split
    · rw [List.mem_cons, i, List.mem_cons]
      constructor
      · rintro (e | e | e)
        · exact Or.inr (Or.inl e)
        · exact Or.inl e
        · exact Or.inr (Or.inr e)
      · rintro (e | e | e)
        · exact Or.inr (Or.inl e)
        · exact Or.inl e
        · exact Or.inr (Or.inr e)
    · rw [List.mem_cons, List.mem_cons]
/-- each behind the next one of the list -/
def sQ (g : Nat → Int → Int) (a : Int) : List Int → Prop
  | [] => True
  | q :: L => (∀ r ∈ L, qA g a r q) ∧ sQ g a L
theorem inB_sQ {g : Nat → Int → Int} {a t : Int} : ∀ L : List Int, sQ g a L → ¬ t ∈ L → sQ g a (inB (fun q => decide (qA g a t q)) t L)
  | [], _, _ => ⟨fun r h => (by cases h), trivial⟩
  | q :: L, h, ht => by
    have hq : ¬ t = q := fun e => ht (by rw [e]; exact List.mem_cons_self)
    unfold inB
    split
    · rename_i w
      have w := of_decide_eq_true w
      refine ⟨fun r hr => ?_, inB_sQ L h.2 (fun m => ht (List.mem_cons_of_mem _ m))⟩
      rcases (inB_mem L).mp hr with e | e
      · rw [e]; exact w
      · exact h.1 r e
    · rename_i w
      have w2 : ¬ qA g a t q := fun z => w (decide_eq_true z)
      have w3 : qA g a q t := by unfold qA at *; omega
      refine ⟨fun r hr => ?_, h⟩
      rcases List.mem_cons.mp hr with e | e
      · rw [e]; exact w3
      · have := h.1 r e
        unfold qA at *
        omega
theorem sQ_rl {g : Nat → Int → Int} {s : Int} {a : Int → Int} : ∀ n : Nat, sQ g s (rl a n) → ∀ x y : Nat, x < y → y < n → qA g s (a x) (a y)
  | 0, _, _, _, _, h => by omega
  | n + 1, h, x, y, xy, yn => by
    by_cases e : y = n
    · subst e
      refine h.1 _ ?_
      have : ∀ m : Nat, x < m → a x ∈ rl a m := fun m => by
        induction m with
        | zero => intro z; omega
        | succ m ih =>
          intro z
          by_cases e : x = m
          · subst e; exact List.mem_cons_self
          · exact List.mem_cons_of_mem _ (ih (by omega))
      exact this _ xy
    · exact sQ_rl n h.2 x y xy (by omega)
theorem rl_of {a : Int → Int} {n : Nat} {j : Int} (j0 : 0 ≤ j) (j1 : j < n) : a j ∈ rl a n := by
  have : ∀ m : Nat, ∀ x : Nat, x < m → a x ∈ rl a m := fun m => by
    induction m with
    | zero => intro x z; omega
    | succ m ih =>
      intro x z
      by_cases e : x = m
      · subst e; exact List.mem_cons_self
      · exact List.mem_cons_of_mem _ (ih x (by omega))
  have h := this n j.toNat (by omega)
  rw [Int.toNat_of_nonneg j0] at h
  exact h
theorem lp_order_in {E : zE} {d : Nat} {k : Nat → Nat × Nat} {h : Nat → Int → Int} {r : Nat → Int → Option Nat} {l : Nat → Nat → Int64} {n : Nat} {Q : zQ} {a t : Int} (a0 : 0 ≤ a) (a1 : a < 5) (t0 : 0 ≤ t) (t1 : t < 12) {kk : Nat} (k12 : kk < 12) (hq : ∀ j : Int, 0 ≤ j → j < (kk : Int) → 0 ≤ h 54 j ∧ h 54 j < 12) (hz : ∀ j : Int, 0 ≤ j → j < (kk : Int) → zb (h 49 (5 * h 54 j + a))) (hzt : zb (h 49 (5 * t + a))) (hX : zGo E (d + 1) M_X9_orderTrains 0 0 Q 65 ([some (.ref 37), some (.int (iI (a))), some (.int (iI ((kk : Int)))), some (.int (iI (t))), some (.int (iI (((zpB (fun q => decide (qA h a t q)) (h 54) kk : Nat) : Int))))], [], zJ (k, zar h 54 (shA (h 54) kk (zpB (fun q => decide (qA h a t q)) (h 54) kk)), r, l, n), 0, 0)) : ∀ c : Nat, ∀ k9 : Nat, k9 < c → k9 ≤ kk → zpB (fun q => decide (qA h a t q)) (h 54) k9 = zpB (fun q => decide (qA h a t q)) (h 54) kk → zGo E (d + 1) M_X9_orderTrains 0 0 Q 20 ([some (.ref 37), some (.int (iI (a))), some (.int (iI ((kk : Int)))), some (.int (iI (t))), some (.int (iI ((k9 : Int))))], [], zJ (k, zar h 54 (shA (h 54) kk k9), r, l, n), 0, 0) := by
  have ok := ok_X9_orderTrains
  intro c
  induction c with
  | zero =>
    intros
    omega
  | succ c ih =>
    intro k9 g1 g2 hz9
    refine s_ldI4 ok rfl ?_
    refine s_if_le ok rfl ⟨by omega, by omega⟩ (fun c22 => ?_) (fun c22 => ?_)
    · first
        | (have c41 := zif_f c40
           rw [if_neg (by rw [decide_eq_false c41]; exact Bool.false_ne_true)] at ez
           rw [← hz9, ez] at hX
           exact hX)
        | (have e0 : k9 = 0 := by omega
           subst e0
           have ez0 : zpB (fun q => decide (qA h a t q)) (h 54) 0 = 0 := rfl
           rw [← hz9, ez0] at hX
           exact hX)
    · obtain ⟨k8, rfl⟩ : ∃ k8, k9 = k8 + 1 := ⟨k9 - 1, by omega⟩
      obtain ⟨b0, b1⟩ := hq k8 (by omega) (by omega)
      have e49 : zar h 54 (shA (h 54) kk (k8 + 1)) 49 = h 49 := zar_other (by omega)
      have e54 : zar h 54 (shA (h 54) kk (k8 + 1)) 54 = shA (h 54) kk (k8 + 1) := zar_at
      have es : shA (h 54) kk (k8 + 1) (k8 : Int) = h 54 k8 := if_neg (by omega)
      have ez : zpB (fun q => decide (qA h a t q)) (h 54) (k8 + 1) = if decide (qA h a t (h 54 k8)) = true then zpB (fun q => decide (qA h a t q)) (h 54) k8 else k8 + 1 := rfl
      refine s_ldA0 ok rfl ?_
      refine s_ldI3 ok rfl ?_
      refine s_ldA0 ok rfl ?_
      refine s_getF ok rfl rfl rfl rfl ?_
      refine s_ldI4 ok rfl ?_
      refine s_ci ok rfl ?_
      refine s_sub ok rfl ?_
      rw [show ((k8 + 1 : Nat) : Int) - 1 = (k8 : Int) by omega]
      refine s_iald ok rfl (by exact rfl) (by exact rfl) (by omega) (by omega) ?_
      rw [e54, es]
      refine s_ldI1 ok rfl ?_
      refine s_callV ok rfl rfl rfl rfl rfl rfl (ct_isAhead (h := zar h 54 (shA (h 54) kk (k8 + 1))) t0 t1 b0 b1 a0 a1 (by rw [e49]; exact hzt) (by rw [e49]; exact hz _ (by omega) (by omega))) ?_
      rw [show (if qA (zar h 54 (shA (h 54) kk (k8 + 1))) a t (h 54 k8) then (1 : Int) else 0) = if qA h a t (h 54 k8) then 1 else 0 by unfold qA; rw [e49]]
      refine s_if_eq ok rfl zif01 (fun c40 => ?_) (fun c40 => ?_)
      · first
          | (have c41 := zif_f c40
             rw [if_neg (by rw [decide_eq_false c41]; exact Bool.false_ne_true)] at ez
             rw [← hz9, ez] at hX
             exact hX)
          | (have e0 : k9 = 0 := by omega
             subst e0
             have ez0 : zpB (fun q => decide (qA h a t q)) (h 54) 0 = 0 := rfl
             rw [← hz9, ez0] at hX
             exact hX)
      · refine s_ldA0 ok rfl ?_
        refine s_getF ok rfl rfl rfl rfl ?_
        refine s_ldI4 ok rfl ?_
        refine s_ldA0 ok rfl ?_
        refine s_getF ok rfl rfl rfl rfl ?_
        refine s_ldI4 ok rfl ?_
        refine s_ci ok rfl ?_
        refine s_sub ok rfl ?_
        rw [show ((k8 + 1 : Nat) : Int) - 1 = (k8 : Int) by omega]
        refine s_iald ok rfl (by exact rfl) (by exact rfl) (by omega) (by omega) ?_
        rw [e54, es]
        refine s_iast ok rfl (by exact rfl) (by exact rfl) (by omega) (by omega) (fun q => by cases q) ?_
        rw [shA_q (by omega)]
        refine s_inc4 ok rfl rfl ?_
        refine s_goto ok rfl ?_
        have c41 := zif_t c40
        rw [if_pos (decide_eq_true c41)] at ez
        rw [show ((k8 + 1 : Nat) : Int) + -1 = (k8 : Int) by omega]
        exact ih k8 (by omega) (by omega) (ez.symm.trans hz9)
theorem lp_order {E : zE} {d : Nat} {k : Nat → Nat × Nat} {h : Nat → Int → Int} {r : Nat → Int → Option Nat} {l : Nat → Nat → Int64} {n : Nat} {Q : zQ} {a : Int} (a0 : 0 ≤ a) (a1 : a < 5) {rn : Nat} (hr : h 37 18 = (rn : Int)) (r12 : rn ≤ 12) (hq : ∀ j : Int, 0 ≤ j → j < (rn : Int) → 0 ≤ h 54 j ∧ h 54 j < 12) (hd9 : ∀ x y : Int, 0 ≤ x → x < y → y < (rn : Int) → ¬ h 54 x = h 54 y) (hz : ∀ j : Int, 0 ≤ j → j < (rn : Int) → zb (h 49 (5 * h 54 j + a))) (hX : ∀ g, (∀ q : Nat, ¬ q = 54 → g q = h q) ∧ (∀ j : Int, ((rn : Int) ≤ j ∨ j < 0) → g 54 j = h 54 j) ∧ sQ h a (rl (g 54) rn) ∧ (∀ y, (y ∈ rl (g 54) rn) ↔ (y ∈ rl (h 54) rn)) → Q none (zJ (k, g, r, l, n))) : ∀ c : Nat, ∀ (m : Nat) (g : Nat → Int → Int) (u v : Option Value), (∀ q : Nat, ¬ q = 54 → g q = h q) ∧ (∀ j : Int, ((m : Int) ≤ j ∨ j < 0) → g 54 j = h 54 j) ∧ sQ h a (rl (g 54) m) ∧ (∀ y, (y ∈ rl (g 54) m) ↔ (y ∈ rl (h 54) m)) → (rn = 0 → g 54 0 = h 54 0) → rn + 1 < m + c → (m ≤ rn ∨ (m = 1 ∧ rn = 0)) → zGo E (d + 1) M_X9_orderTrains 0 0 Q 2 ([some (.ref 37), some (.int (iI (a))), some (.int (iI ((m : Int)))), u, v], [], zJ (k, g, r, l, n), 0, 0) := by
  have ok := ok_X9_orderTrains
  intro c
  induction c with
  | zero =>
    intros
    omega
  | succ c ih =>
    intro m g u v ⟨f, f54, fs, fm⟩ f9 g1 g2
    refine s_ldI2 ok rfl ?_
    refine s_ldA0 ok rfl ?_
    refine s_getJ 18 ok rfl rfl rfl rfl ?_
    rw [show g 37 18 = (rn : Int) from (congrFun (f 37 (by omega)) 18).trans hr]
    refine s_c_ge ok rfl ⟨by omega, by omega⟩ ⟨by omega, by omega⟩ (fun c7 => ?_) (fun c7 => ?_)
    · refine s_retV ok rfl ?_
      by_cases e : m = rn
      · subst e
        exact hX g ⟨f, f54, fs, fm⟩
      · obtain ⟨rfl, rfl⟩ : m = 1 ∧ rn = 0 := by omega
        exact hX g ⟨f, fun j hj => by
          by_cases c9 : j = 0
          · subst c9
            exact f9 rfl
          · exact f54 j (by omega), trivial, fun y => Iff.rfl⟩
    · refine s_ldA0 ok rfl ?_
      refine s_getF ok rfl rfl rfl rfl ?_
      refine s_ldI2 ok rfl ?_
      refine s_iald ok rfl (by exact rfl) (by exact rfl) (by omega) (by omega) ?_
      have eq9 : g 54 m = h 54 m := f54 m (by omega)
      obtain ⟨t0, t1⟩ := hq m (by omega) (by omega)
      rw [eq9]
      refine s_stI3 ok rfl rfl ?_
      refine s_ldI2 ok rfl ?_
      refine s_stI4 ok rfl rfl ?_
      have le := zpB_le (B := fun q => decide (qA g a (h 54 m) q)) (a := g 54) m
      have gq : ∀ j : Int, 0 ≤ j → j < (m : Int) → 0 ≤ g 54 j ∧ g 54 j < 12 := fun j j0 j1 => by
        obtain ⟨j2, j3, j4, j5⟩ := rl_mem m ((fm _).mp (rl_of j0 j1))
        have := hq j2 j3 (by omega)
        omega
      have g49 : g 49 = h 49 := f 49 (by omega)
      have gz : ∀ j : Int, 0 ≤ j → j < (m : Int) → zb (g 49 (5 * g 54 j + a)) := fun j j0 j1 => by
        obtain ⟨j2, j3, j4, j5⟩ := rl_mem m ((fm _).mp (rl_of j0 j1))
        have := hz j2 j3 (by omega)
        rw [j5] at this
        rw [g49]
        exact this
      refine zgo_eq ?_ (lp_order_in (E := E) (d := d) (k := k) (r := r) (l := l) (n := n) (h := g) a0 a1 t0 t1 (kk := m) (by omega) gq gz (by rw [g49]; exact hz m (by omega) (by omega)) ?_ (m + 1) m (by omega) (by omega) rfl)
      · have e0 : zar g 54 (shA (g 54) m m) = g := by
          have : shA (g 54) m m = g 54 := by
            funext j
            exact if_neg (by omega)
          rw [this, zar_self]
        rw [e0]
      refine s_ldA0 ok rfl ?_
      refine s_getF ok rfl rfl rfl rfl ?_
      refine s_ldI4 ok rfl ?_
      refine s_ldI3 ok rfl ?_
      refine s_iast ok rfl (by exact rfl) (by exact rfl) (by omega) (by omega) (fun q => by cases q) ?_
      refine s_inc2 ok rfl rfl ?_
      refine s_goto ok rfl ?_
      rw [zar_zv]
      have eB : (fun q => decide (qA g a (h 54 m) q)) = fun q => decide (qA h a (h 54 m) q) := by
        funext q
        unfold qA
        rw [g49]
      have en : ¬ h 54 m ∈ rl (g 54) m := fun z => by
        obtain ⟨j2, j3, j4, j5⟩ := rl_mem m ((fm _).mp z)
        exact hd9 j2 m j3 j4 (by omega) j5
      have er := rl_inB (a := g 54) (B := fun q => decide (qA g a (h 54 m) q)) (t := h 54 m) m
      have ei : (fun i : Int => if i = ((zpB (fun q => decide (qA g a (h 54 m) q)) (g 54) m : Nat) : Int) then h 54 m else shA (g 54) m (zpB (fun q => decide (qA g a (h 54 m) q)) (g 54) m) i) = insA (g 54) m (h 54 m) (zpB (fun q => decide (qA g a (h 54 m) q)) (g 54) m) := by
        funext i
        unfold insA
        rfl
      refine ih (m + 1) _ _ _ ⟨fun q hq => ?_, fun j hj => ?_, ?_, fun y => ?_⟩ (fun z => by omega) (by omega) (by omega)
      · rw [zar_other hq]
        exact f q hq
      · rw [zar_at]
        show (if j = _ then _ else shA (g 54) m _ j) = _
        rw [if_neg (by omega)]
        unfold shA
        rw [if_neg (by omega)]
        exact f54 j (by omega)
      · rw [zar_at]
        rw [ei, er, eB]
        exact inB_sQ _ fs en
      · rw [zar_at]
        rw [ei, er, inB_mem, fm]
        exact (List.mem_cons).symm
theorem ct_orderTrains {E : zE} {d : Nat} {k : Nat → Nat × Nat} {h : Nat → Int → Int} {r : Nat → Int → Option Nat} {l : Nat → Nat → Int64} {n : Nat} {a : Int} (a0 : 0 ≤ a) (a1 : a < 5) {rn : Nat} (hr : h 37 18 = (rn : Int)) (r12 : rn ≤ 12) (hq : ∀ j : Int, 0 ≤ j → j < (rn : Int) → 0 ≤ h 54 j ∧ h 54 j < 12) (hd9 : ∀ x y : Int, 0 ≤ x → x < y → y < (rn : Int) → ¬ h 54 x = h 54 y) (hz : ∀ j : Int, 0 ≤ j → j < (rn : Int) → zb (h 49 (5 * h 54 j + a))) : zCT E (d + 1) M_X9_orderTrains [.ref 37, .int (iI (a))] (zJ (k, h, r, l, n)) 0 0 (zUx (zG k r l n (fun g => (∀ q : Nat, ¬ q = 54 → g q = h q) ∧ (∀ j : Int, ((rn : Int) ≤ j ∨ j < 0) → g 54 j = h 54 j) ∧ sQ h a (rl (g 54) rn) ∧ (∀ y, (y ∈ rl (g 54) rn) ↔ (y ∈ rl (h 54) rn))))) := by
  have ok := ok_X9_orderTrains
  refine zCT_of pn_X9_orderTrains (Nat.le_of_ble_eq_true rfl) ?_
  show zGo _ _ _ _ _ _ 0 ([some (.ref 37), some (.int (iI (a))), none, none, none], [], _, _, _)
  refine s_ci ok rfl ?_
  refine s_stI2 ok rfl rfl ?_
  refine lp_order (E := E) (d := d) (k := k) (r := r) (l := l) (n := n) (h := h) a0 a1 hr r12 hq hd9 hz (fun g hg => ⟨rfl, g, rfl, hg⟩) (rn + 1) 1 h none none ⟨fun q _ => rfl, fun j _ => rfl, ⟨fun r hr => (by cases hr), trivial⟩, fun y => Iff.rfl⟩ (fun _ => rfl) (by omega) (by omega)
