/-! the law: the questions that change the plan, one by one -/
theorem zct_w8 {E : zE} {d : Nat} {M : zM} {vs : List Value} {σ τ : zS} {mc ms : Nat} {v : Value} {F : zS → Prop} (h : zCT E d M vs σ mc ms (zV v τ)) (a : F τ) : zCT E d M vs σ mc ms (zVx v F) := zct_w9 h fun _ _ ⟨z1, z2⟩ => ⟨z1, z2 ▸ a⟩
theorem zct_w7 {E : zE} {d : Nat} {M : zM} {vs : List Value} {σ : zS} {mc ms : Nat} {v : Value} {F F2 : zS → Prop} (h : zCT E d M vs σ mc ms (zVx v F)) (a : ∀ s, F s → F2 s) : zCT E d M vs σ mc ms (zVx v F2) := zct_w9 h fun _ s ⟨z1, z2⟩ => ⟨z1, a s z2⟩
theorem zar_of {h : Nat → Int → Int} {n b : Nat} {a : Int → Int} (e : ¬ b = n) : zar h n a b = h b := by
  unfold zar
  cases q : Nat.beq b n
  · rfl
  · exact absurd (Nat.eq_of_beq_eq_true q) e
theorem la_base {E : zE} {L : Nat} {k : Nat → Nat × Nat} {h : Nat → Int → Int} {r : Nat → Int → Option Nat} {l : Nat → Nat → Int64} {n : Nat} (I : LI L k h r n) {a : Int} (ya : zb a) {b : Int} (yb : zb b) : zLP Value.int E L M_X11_base M_X12_base [.int (iI a), .int (iI b)] k h r l n := by
  refine lp_chg I _ (if (0 ≤ a ∧ a < h 60 6) ∧ (0 ≤ b ∧ b ≤ 300) then zp (h 60) (19 + 5 * a + 4) b else h 60) ⟨by omega, by omega⟩ (zct_w8 (ct_base11 I.2.2.2.2.1.1.1 I.2.2.2.2.1.2 ya yb) ?_) (fun k2 g r2 l2 n2 f => ?_)
  · refine ⟨k, _, r, l, n, rfl, Nat.le_refl _, fun q hq => ⟨rfl, fun z => ?_, fun _ _ => rfl⟩, ?_⟩
    · split
      · exact zv_of (by omega)
      · rfl
    · by_cases c9 : (0 ≤ a ∧ a < h 60 6) ∧ (0 ≤ b ∧ b ≤ 300)
      · simp only [if_pos c9]
        have := cR4_base I.2.2.2.2.1.2 (x := a) (v := b) c9.1.1 I.2.2.2.2.1.1.1.2.1
        rw [sg_4] at this
        exact this
      · simp only [if_neg c9]
        exact I.2.2.2.2.1.2
  · have e60 : g 60 = h 60 := f 60 (by omega) (by omega)
    have z : zCT E 10 _ _ _ 0 0 _ := ct_base (E := E) (k := k2) (h := g) (r := r2) (l := l2) (n := n2) (by rw [e60]; exact I.2.2.2.2.1.1.1) ya yb
    rw [e60] at z
    refine zct_w9 z fun _ s y => ?_
    obtain ⟨y1, rfl⟩ := y
    refine ⟨y1, ?_⟩
    by_cases c9 : (0 ≤ a ∧ a < h 60 6) ∧ (0 ≤ b ∧ b ≤ 300)
    · simp only [if_pos c9]
      refine ⟨_, rfl, fun q q1 q2 q3 q4 => zv_of q2, ⟨congrFun (zv_of (by omega)) _, congrFun (zv_of (by omega)) _, congrFun (zv_of (by omega)) _⟩, pS_base I.2.2.2.2.1.1 c9.1.1 c9.2.1 c9.2.2, fun j j0 j1 => ?_⟩
      exact zv_60 e60
    · simp only [if_neg c9]
      exact ⟨_, rfl, fun _ _ _ _ _ => rfl, ⟨rfl, rfl, rfl⟩, I.2.2.2.2.1.1, fun j _ _ => congrFun e60 j⟩
theorem la_run {E : zE} {L : Nat} {k : Nat → Nat × Nat} {h : Nat → Int → Int} {r : Nat → Int → Option Nat} {l : Nat → Nat → Int64} {n : Nat} (I : LI L k h r n) {a : Int} (ya : zb a) {b : Int} (yb : zb b) : zLP Value.int E L M_X11_run M_X12_run [.int (iI a), .int (iI b)] k h r l n := by
  refine lp_chg I _ (if (0 ≤ a ∧ a ≤ 3) ∧ (1 ≤ b ∧ b ≤ 60) then zp (h 60) (7 + a) b else h 60) ⟨by omega, by omega⟩ (zct_w8 (ct_run11 I.2.2.2.2.1.1.1 I.2.2.2.2.1.2 ya yb) ?_) (fun k2 g r2 l2 n2 f => ?_)
  · refine ⟨k, _, r, l, n, rfl, Nat.le_refl _, fun q hq => ⟨rfl, fun z => ?_, fun _ _ => rfl⟩, ?_⟩
    · split
      · exact zv_of (by omega)
      · rfl
    · by_cases c9 : (0 ≤ a ∧ a ≤ 3) ∧ (1 ≤ b ∧ b ≤ 60)
      · simp only [if_pos c9]
        exact cR4_run I.2.2.2.2.1.2 c9.1.1 (by omega)
      · simp only [if_neg c9]
        exact I.2.2.2.2.1.2
  · have e60 : g 60 = h 60 := f 60 (by omega) (by omega)
    have z : zCT E 10 _ _ _ 0 0 _ := ct_run (E := E) (k := k2) (h := g) (r := r2) (l := l2) (n := n2) ya yb
    rw [e60] at z
    refine zct_w9 z fun _ s y => ?_
    obtain ⟨y1, rfl⟩ := y
    refine ⟨y1, ?_⟩
    by_cases c9 : (0 ≤ a ∧ a ≤ 3) ∧ (1 ≤ b ∧ b ≤ 60)
    · simp only [if_pos c9]
      refine ⟨_, rfl, fun q q1 q2 q3 q4 => zv_of q2, ⟨congrFun (zv_of (by omega)) _, congrFun (zv_of (by omega)) _, congrFun (zv_of (by omega)) _⟩, pS_put I.2.2.2.2.1.1 (by omega), fun j j0 j1 => ?_⟩
      exact zv_60 e60
    · simp only [if_neg c9]
      exact ⟨_, rfl, fun _ _ _ _ _ => rfl, ⟨rfl, rfl, rfl⟩, I.2.2.2.2.1.1, fun j _ _ => congrFun e60 j⟩
theorem la_set {E : zE} {L : Nat} {k : Nat → Nat × Nat} {h : Nat → Int → Int} {r : Nat → Int → Option Nat} {l : Nat → Nat → Int64} {n : Nat} (I : LI L k h r n) {a : Int} (ya : zb a) {b : Int} (yb : zb b) : zLP Value.int E L M_X11_set M_X12_set [.int (iI a), .int (iI b)] k h r l n := by
  refine lp_chg I _ (if sRu a b then zp (h 60) (2 + a) b else h 60) ⟨by omega, by omega⟩ (zct_w8 (ct_set11 I.2.2.2.2.1.1.1 I.2.2.2.2.1.2 I.2.2.1 ya yb) ?_) (fun k2 g r2 l2 n2 f => ?_)
  · refine ⟨k, _, r, l, n, rfl, Nat.le_refl _, fun q hq => ⟨rfl, fun z => ?_, fun _ _ => rfl⟩, ?_⟩
    · split
      · exact zv_of (by omega)
      · rfl
    · by_cases c9 : sRu a b
      · simp only [if_pos c9]
        exact cR4_rule I.2.2.2.2.1.2 (by unfold sRu at c9; omega) (by unfold sRu at c9; omega)
      · simp only [if_neg c9]
        exact I.2.2.2.2.1.2
  · have e60 : g 60 = h 60 := f 60 (by omega) (by omega)
    have z : zCT E 10 _ _ _ 0 0 _ := ct_set (E := E) (k := k2) (h := g) (r := r2) (l := l2) (n := n2) ya yb
    rw [e60] at z
    refine zct_w9 z fun _ s y => ?_
    obtain ⟨y1, rfl⟩ := y
    refine ⟨y1, ?_⟩
    by_cases c9 : sRu a b
    · simp only [if_pos c9]
      refine ⟨_, rfl, fun q q1 q2 q3 q4 => zv_of q2, ⟨congrFun (zv_of (by omega)) _, congrFun (zv_of (by omega)) _, congrFun (zv_of (by omega)) _⟩, pS_put I.2.2.2.2.1.1 (by unfold sRu at c9; omega), fun j j0 j1 => ?_⟩
      exact zv_60 e60
    · simp only [if_neg c9]
      exact ⟨_, rfl, fun _ _ _ _ _ => rfl, ⟨rfl, rfl, rfl⟩, I.2.2.2.2.1.1, fun j _ _ => congrFun e60 j⟩
theorem la_cancels {E : zE} {L : Nat} {k : Nat → Nat × Nat} {h : Nat → Int → Int} {r : Nat → Int → Option Nat} {l : Nat → Nat → Int64} {n : Nat} (I : LI L k h r n) {a : Int} (ya : zb a) : zLP Value.int E L M_X11_cancels M_X12_cancels [.int (iI a)] k h r l n := by
  refine lp_chg I _ (if 0 ≤ a ∧ a < h 60 0 then zp (h 60) 1 (zxb (h 60 1) a) else h 60) ⟨by omega, by omega⟩ (zct_w7 (ct_cancels11 I.2.2.2.2.1.1 I.2.2.2.2.1.2 ya) (fun s z => ?_)) (fun k2 g r2 l2 n2 f => ?_)
  · obtain ⟨g, rfl, z2, z3⟩ := z
    exact ⟨k, g, r, l, n, rfl, Nat.le_refl _, fun q hq => ⟨rfl, fun y => z2 q (by omega), fun _ _ => rfl⟩, z3⟩
  · have e60 : g 60 = h 60 := f 60 (by omega) (by omega)
    have z : zCT E 10 _ _ _ 0 0 _ := ct_cancels (E := E) (k := k2) (h := g) (r := r2) (l := l2) (n := n2) (by rw [e60]; exact I.2.2.2.2.1.1.1) ya
    rw [e60] at z
    refine zct_w9 z fun _ s y => ?_
    obtain ⟨y1, rfl⟩ := y
    refine ⟨y1, ?_⟩
    by_cases c9 : 0 ≤ a ∧ a < h 60 0
    · simp only [if_pos c9]
      refine ⟨_, rfl, fun q q1 q2 q3 q4 => zv_of q2, ⟨congrFun (zv_of (by omega)) _, congrFun (zv_of (by omega)) _, congrFun (zv_of (by omega)) _⟩, pS_put I.2.2.2.2.1.1 (Or.inl ⟨rfl, (zxb4 I.2.2.2.2.1.1.1.2.2.1 I.2.2.2.2.1.1.1.2.2.2.1 c9.1 (by have := I.2.2.2.2.1.1.1.2.1; omega)).1.1, zxb_lt I.2.2.2.2.1.1.1.2.2.1 I.2.2.2.2.1.1.2.2.2.2 c9.1 c9.2 I.2.2.2.2.1.1.1.2.1⟩), fun j j0 j1 => ?_⟩
      exact zv_60 e60
    · simp only [if_neg c9]
      exact ⟨_, rfl, fun _ _ _ _ _ => rfl, ⟨rfl, rfl, rfl⟩, I.2.2.2.2.1.1, fun j _ _ => congrFun e60 j⟩
theorem la_train {E : zE} {L : Nat} {k : Nat → Nat × Nat} {h : Nat → Int → Int} {r : Nat → Int → Option Nat} {l : Nat → Nat → Int64} {n : Nat} (I : LI L k h r n) {a : Int} (ya : zb a) {b : Int} (yb : zb b) : zLP Value.int E L M_X11_train M_X12_train [.int (iI a), .int (iI b)] k h r l n := by
  refine lp_chg I _ (if ((0 ≤ a ∧ a ≤ 300) ∧ (0 ≤ b ∧ b ≤ 9)) ∧ ¬ h 60 0 = 4 then zp (zp (zp (h 60) (11 + 2 * h 60 0) a) (11 + 2 * h 60 0 + 1) b) 0 (h 60 0 + 1) else h 60) ⟨by omega, by omega⟩ (zct_w7 (ct_train11 I.2.2.2.2.1.1 I.2.2.2.2.1.2 ya yb) (fun s z => ?_)) (fun k2 g r2 l2 n2 f => ?_)
  · obtain ⟨g, rfl, z2, z3⟩ := z
    exact ⟨k, g, r, l, n, rfl, Nat.le_refl _, fun q hq => ⟨rfl, fun y => z2 q (by omega), fun _ _ => rfl⟩, z3⟩
  · have e60 : g 60 = h 60 := f 60 (by omega) (by omega)
    have z : zCT E 10 _ _ _ 0 0 _ := ct_train (E := E) (k := k2) (h := g) (r := r2) (l := l2) (n := n2) ya yb (by rw [e60]; exact I.2.2.2.2.1.1.1.1) (by rw [e60]; exact I.2.2.2.2.1.1.1.2.1)
    rw [e60] at z
    refine zct_w9 z fun _ s y => ?_
    obtain ⟨y1, rfl⟩ := y
    by_cases c9 : ((0 ≤ a ∧ a ≤ 300) ∧ (0 ≤ b ∧ b ≤ 9)) ∧ ¬ h 60 0 = 4
    · simp only [if_pos c9, if_pos c9.1, if_neg c9.2]
      refine ⟨by rw [if_pos c9.1, if_neg c9.2] at y1; exact y1, _, rfl, fun q q1 q2 q3 q4 => (zv_of q2).trans ((zv_of q2).trans (zv_of q2)), ⟨congrFun ((zv_of (by omega)).trans ((zv_of (by omega)).trans (zv_of (by omega)))) _, congrFun ((zv_of (by omega)).trans ((zv_of (by omega)).trans (zv_of (by omega)))) _, congrFun ((zv_of (by omega)).trans ((zv_of (by omega)).trans (zv_of (by omega)))) _⟩, pS_train I.2.2.2.2.1.1 c9.1.1.1 c9.1.1.2 c9.1.2.1 c9.1.2.2 c9.2, fun j j0 j1 => ?_⟩
      unfold sAT
      rw [e60]
      exact zv_60 (funext fun j => zv_60 (funext fun j => zv_60 e60))
    · simp only [if_neg c9]
      refine ⟨y1, g, ?_, fun _ _ _ _ _ => rfl, ⟨rfl, rfl, rfl⟩, I.2.2.2.2.1.1, fun j _ _ => congrFun e60 j⟩
      refine congrArg (fun z => zJ (k2, z, r2, l2, n2)) ?_
      by_cases c8 : (0 ≤ a ∧ a ≤ 300) ∧ (0 ≤ b ∧ b ≤ 9)
      · rw [if_pos c8, if_pos (by omega)]
      · rw [if_neg c8]
theorem la_leaves {E : zE} {L : Nat} {k : Nat → Nat × Nat} {h : Nat → Int → Int} {r : Nat → Int → Option Nat} {l : Nat → Nat → Int64} {n : Nat} (I : LI L k h r n) {a : Int} (ya : zb a) : zLP Value.int E L M_X11_leaves M_X12_leaves [.int (iI a)] k h r l n := by
  refine lp_chg I _ (if 0 ≤ a ∧ a < h 60 6 then sLv (h 60) a (5 * (h 60 6 - 1)) else h 60) ⟨by omega, by omega⟩ (zct_w7 (ct_leaves11 I.2.2.2.2.1.1 I.2.2.2.2.1.2 ya) (fun s z => ?_)) (fun k2 g r2 l2 n2 f => ?_)
  · obtain ⟨g, r9, rfl, z2, z3, z4⟩ := z
    exact ⟨k, g, r9, l, n, rfl, Nat.le_refl _, fun q hq => ⟨rfl, fun y => z2 q (by omega), fun y _ => z3 q y⟩, z4⟩
  · have e60 : g 60 = h 60 := f 60 (by omega) (by omega)
    have z : zCT E 10 _ _ _ 0 0 _ := ct_leaves (E := E) (k := k2) (h := g) (r := r2) (l := l2) (n := n2) (by rw [e60]; exact I.2.2.2.2.1.1.1) ya
    rw [e60] at z
    refine zct_w9 z fun _ s y => ?_
    obtain ⟨y1, rfl⟩ := y
    refine ⟨y1, ?_⟩
    by_cases c9 : 0 ≤ a ∧ a < h 60 6
    · simp only [if_pos c9]
      refine ⟨_, rfl, fun q q1 q2 q3 q4 => zar_of q2, ⟨congrFun (zar_of (by omega)) _, congrFun (zar_of (by omega)) _, congrFun (zar_of (by omega)) _⟩, pS_leave I.2.2.2.2.1.1 c9.1 c9.2, fun j j0 j1 => ?_⟩
      exact rfl
    · simp only [if_neg c9]
      exact ⟨_, rfl, fun _ _ _ _ _ => rfl, ⟨rfl, rfl, rfl⟩, I.2.2.2.2.1.1, fun j _ _ => congrFun e60 j⟩
theorem la_comes {E : zE} {L : Nat} {k : Nat → Nat × Nat} {h : Nat → Int → Int} {r : Nat → Int → Option Nat} {l : Nat → Nat → Int64} {n : Nat} (I : LI L k h r n) {a : Int} (ya : zb a) {b : Int} (yb : zb b) {c : Int} (yc : zb c) {e9 : Int} (ye9 : zb e9) : zLP Value.int E L M_X11_comes M_X12_comes [.int (iI a), .int (iI b), .int (iI c), .int (iI e9)] k h r l n := by
  refine lp_chg I _ (if ((0 ≤ a ∧ a < 8) ∧ (0 ≤ b ∧ b ≤ 4) ∧ (0 ≤ c ∧ c ≤ 4) ∧ (0 ≤ e9 ∧ e9 ≤ 300)) ∧ sWK h a = 0 ∧ b < c ∧ ¬ h 60 6 = 8 then pPn (h 60) (fun i : Int => if i = 0 then h 81 a else if i = 1 then h 82 a else if i = 2 then b else if i = 3 then c else e9) else h 60) ⟨by omega, by omega⟩ (zct_w7 (ct_comes11 I.2.2.2.2.1.1 I.2.2.2.2.1.2 I.2.2.2.1 ya yb yc ye9) (fun s z => ?_)) (fun k2 g r2 l2 n2 f => ?_)
  · obtain ⟨g, r9, rfl, z2, z3, z4⟩ := z
    exact ⟨k, g, r9, l, n, rfl, Nat.le_refl _, fun q hq => ⟨rfl, fun y => z2 q (by omega), fun y _ => z3 q y⟩, z4⟩
  · have e60 : g 60 = h 60 := f 60 (by omega) (by omega)
    have z : zCT E 10 _ _ _ 0 0 _ := ct_comes (E := E) (k := k2) (h := g) (r := r2) (l := l2) (n := n2) (by rw [e60]; exact I.2.2.2.2.1.1.1.2.2.2.2.2.2.2.2.2.2.2.2.1) (by rw [e60]; exact I.2.2.2.2.1.1.1.2.2.2.2.2.2.2.2.2.2.2.2.2.1) ya yb yc ye9 (by rw [f 80 (by omega) (by omega)]; exact I.2.2.2.2.2.2.2.1.1)
    rw [sWK_cg (f 80 (by omega) (by omega)), f 81 (by omega) (by omega), f 82 (by omega) (by omega), e60] at z
    refine zct_w9 z fun _ s y => ?_
    obtain ⟨y1, rfl⟩ := y
    refine ⟨y1, ?_⟩
    by_cases c9 : ((0 ≤ a ∧ a < 8) ∧ (0 ≤ b ∧ b ≤ 4) ∧ (0 ≤ c ∧ c ≤ 4) ∧ (0 ≤ e9 ∧ e9 ≤ 300)) ∧ sWK h a = 0 ∧ b < c ∧ ¬ h 60 6 = 8
    · simp only [if_pos c9]
      refine ⟨_, rfl, fun q q1 q2 q3 q4 => (zv_of q2).trans ((zv_of q2).trans ((zv_of q2).trans ((zv_of q2).trans ((zv_of q2).trans (zv_of q2))))), ⟨congrFun ((zv_of (by omega)).trans ((zv_of (by omega)).trans ((zv_of (by omega)).trans ((zv_of (by omega)).trans ((zv_of (by omega)).trans (zv_of (by omega))))))) _, congrFun ((zv_of (by omega)).trans ((zv_of (by omega)).trans ((zv_of (by omega)).trans ((zv_of (by omega)).trans ((zv_of (by omega)).trans (zv_of (by omega))))))) _, congrFun ((zv_of (by omega)).trans ((zv_of (by omega)).trans ((zv_of (by omega)).trans ((zv_of (by omega)).trans ((zv_of (by omega)).trans (zv_of (by omega))))))) _⟩, pS_person I.2.2.2.2.1.1 c9.2.2.2 (I.cost c9.2.1).1 (I.cost c9.2.1).2 c9.1.2.1.1 c9.2.2.1 (Int.lt_of_le_of_lt c9.1.2.2.1.2 (by decide)) c9.1.2.2.2, fun j j0 j1 => ?_⟩
      show sCs g (h 81 a) (h 82 a) b c e9 60 j = _
      unfold sCs pPn
      rw [e60]
      have e61 : ∀ j, g 60 j = h 60 j := fun j => congrFun e60 j
      simp only [zv_eq, true_and, e61]
      repeat' split
      all_goals first | rfl | (exfalso; omega)
    · simp only [if_neg c9]
      exact ⟨_, rfl, fun _ _ _ _ _ => rfl, ⟨rfl, rfl, rfl⟩, I.2.2.2.2.1.1, fun j _ _ => congrFun e60 j⟩
theorem la_restore {E : zE} {L : Nat} {k : Nat → Nat × Nat} {h : Nat → Int → Int} {r : Nat → Int → Option Nat} {l : Nat → Nat → Int64} {n : Nat} (I : LI L k h r n) : zLP Value.int E L M_X11_restore M_X12_restore [] k h r l n := by
  refine lp_chg I _ (if h 3 3 = 0 then h 60 else h 61) ⟨by omega, by omega⟩ (zct_w7 (ct_restore11 I.2.2.2.2.1.1 I.2.2.2.2.1.2 I.2.2.2.2.2.2.2.2.1.2 I.2.2.2.2.2.2.2.2.2) (fun s z => ?_)) (fun k2 g r2 l2 n2 f => ?_)
  · obtain ⟨g, r9, rfl, z2, z3, z4⟩ := z
    exact ⟨k, g, r9, l, n, rfl, Nat.le_refl _, fun q hq => ⟨rfl, fun y => z2 q (by omega), fun y _ => z3 q y⟩, z4⟩
  · have e60 : g 60 = h 60 := f 60 (by omega) (by omega)
    have e33 : h 3 3 = h 59 3 := I.2.2.2.2.2.2.2.2.1.1
    have e3 : g 59 3 = h 3 3 := (congrFun (f 59 (by omega) (by omega)) 3).trans e33.symm
    have e61 : g 61 = h 61 := f 61 (by omega) (by omega)
    have z : zCT E 10 _ _ _ 0 0 _ := ct_restore (E := E) (k := k2) (h := g) (r := r2) (l := l2) (n := n2) (by rw [e3]; rcases I.2.2.2.2.2.2.2.2.1.2 with q | q <;> rw [q] <;> exact ⟨by decide, by decide⟩)
    rw [e3, e61] at z
    refine zct_w9 z fun _ s y => ?_
    obtain ⟨y1, rfl⟩ := y
    by_cases c9 : h 3 3 = 0
    · simp only [if_pos c9]
      exact ⟨by rw [if_pos c9] at y1; exact y1, _, rfl, fun _ _ _ _ _ => rfl, ⟨rfl, rfl, rfl⟩, I.2.2.2.2.1.1, fun j _ _ => congrFun e60 j⟩
    · simp only [if_neg c9]
      have z1 : h 3 3 = 1 := by rcases I.2.2.2.2.2.2.2.2.1.2 with q | q <;> omega
      refine ⟨by rw [if_neg c9] at y1; exact y1, _, rfl, fun q q1 q2 q3 q4 => funext fun b => if_neg (fun z => q2 z.1), ⟨if_neg (fun z => by omega), if_neg (fun z => by omega), if_neg (fun z => by omega)⟩, (I.2.2.2.2.2.2.2.2.2 z1).1, fun j j0 j1 => ?_⟩
      exact (if_pos ⟨rfl, j0, j1⟩).trans (congrFun e61 j)
theorem la_day {E : zE} {L : Nat} {k : Nat → Nat × Nat} {h : Nat → Int → Int} {r : Nat → Int → Option Nat} {l : Nat → Nat → Int64} {n : Nat} (I : LI L k h r n) {a : Int} (ya : zb a) : zLP Value.int E L M_X11_day M_X12_day [.int (iI a)] k h r l n := by
  refine lp_chg I _ _ (mc := 34) (ms := 68) ⟨by omega, by omega⟩ (zct_w7 (ct_day11 I.2.2.2.2.1.1 I.2.2.2.2.1.2 I.2.2.2.1 I.2.2.1 I.1 ya) fun s ⟨k2, g, r2, l2, n2, z2, z3, z4, z5⟩ => ⟨k2, g, r2, l2, n2, z2, z3.1, fun q hq => ⟨(z4 q hq).1, (z4 q hq).2.2.1, fun y1 y2 => (z4 q hq).2.2.2 y2 y1⟩, z5⟩) (fun k2 g r2 l2 n2 f => ?_)
  have e60 : g 60 = h 60 := f 60 (by omega) (by omega)
  have e80 : g 80 = h 80 := f 80 (by omega) (by omega)
  have e83 : g 83 = h 83 := f 83 (by omega) (by omega)
  have e84 : g 84 = h 84 := f 84 (by omega) (by omega)
  have e85 : g 85 = h 85 := f 85 (by omega) (by omega)
  have hb : sWR g a 0 = 0 → ∀ j, 0 ≤ j → j < g 84 a → -128 ≤ g 85 (100 * a + j) ∧ g 85 (100 * a + j) ≤ 127 := by
    rw [sWR_cg e80 e83, e84, e85]
    intro q
    have q1 : sWR h a (-1) = 0 := by
      by_cases c : sWR h a (-1) = 0
      · exact c
      · rw [sWR_0.1 c] at q; exact q
    have q2 := sWR_0.2 q1
    have q3 : h 83 a = 0 := by
      by_cases c : h 83 a = 0
      · exact c
      · rw [if_neg c] at q2; omega
    obtain ⟨-, -, -, w, -, -, -, -, -, -, hrg⟩ := cSh_w I.2.2.2.1 q1
    exact hrg q3
  have z : zCT E 10 _ _ _ 0 0 _ := ct_day (E := E) (k := k2) (h := g) (r := r2) (l := l2) (n := n2) (by rw [e60]; exact I.2.2.2.2.1.1) (dKp_fr I.2.2.2.2.2.2.2.1 e80 e83 e84 e85) ya hb
  rw [sWR_cg e80 e83, e84, e85, e60] at z
  refine zct_w9 z fun _ s y => ?_
  obtain ⟨y1, g2, rfl, y2, y3⟩ := y
  refine ⟨y1, g2, rfl, y2.1, ⟨y2.2 3 (by omega), y2.2 17 (by omega), y2.2 18 (by omega)⟩, ?_⟩
  split at y3
  · rename_i c9
    simp only [if_pos c9]
    exact ⟨y3.2, fun j _ _ => congrFun y3.1 j⟩
  · rename_i c9
    simp only [if_neg c9]
    exact ⟨I.2.2.2.2.1.1, fun j j0 j1 => y3 j j0 j1⟩
