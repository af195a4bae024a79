/-! the class: what is laid on its shelves; the image -/
theorem ct_keep11 {E : zE} {d : Nat} {k : Nat → Nat × Nat} {h : Nat → Int → Int} {r : Nat → Int → Option Nat} {l : Nat → Nat → Int64} {n : Nat} (hn : 87 ≤ n) {t a b c : Int} (zt : zb t) (za : zb a) (z2 : zb b) (z3 : zb c) : zCT E (d + 5) M_X11_keep [.ref 3, .int (iI (t)), .int (iI (a)), .int (iI (b)), .int (iI (c))] (zJ (k, h, r, l, n)) 1 2 (zVx (.int (iI (if (0 ≤ t ∧ t < 8) ∧ (0 ≤ a ∧ a ≤ 1) ∧ (a = 1 → (0 ≤ b ∧ b ≤ 7) ∧ (0 ≤ c ∧ c ≤ 9)) then 0 else -1))) (fun s => ∃ k2 h2 r2 l2 n2, s = zJ (k2, h2, r2, l2, n2) ∧ (n ≤ n2 ∧ n2 ≤ n + 1) ∧ (∀ q, q < n → k2 q = k q ∧ h2 q = h q ∧ l2 q = l q ∧ (¬ q = 55 → ¬ q = 56 → r2 q = r q)) ∧ (if (0 ≤ t ∧ t < 8) ∧ (0 ≤ a ∧ a ≤ 1) ∧ (a = 1 → (0 ≤ b ∧ b ≤ 7) ∧ (0 ≤ c ∧ c ≤ 9)) then (∀ j, r2 56 j = if j = t then none else r 56 j) ∧ (∀ j, ¬ j = t → r2 55 j = r 55 j) ∧ (¬ a = 1 → r2 55 t = none) ∧ (a = 1 → ∃ v, r2 55 t = some v ∧ wk k2 h2 v b c ∧ 87 ≤ v ∧ v < n2) else r2 = r))) := by
  have ok := ok_X11_keep
  refine zCT_of pn_X11_keep (Nat.le_of_ble_eq_true rfl) ?_
  show zGo _ _ _ _ _ _ 0 ([some (.ref 3), some (.int (iI (t))), some (.int (iI (a))), some (.int (iI (b))), some (.int (iI (c)))], [], _, _, _)
  refine s_ldI1 ok rfl ?_
  refine s_callS ok rfl rfl rfl rfl (ct_isShelf11 zt) ?_
  refine s_if_eq ok rfl zif01 (fun c4 => ?_) (fun c4 => ?_)
  · refine s_ci ok rfl ?_
    have no : ¬ ((0 ≤ t ∧ t < 8) ∧ (0 ≤ a ∧ a ≤ 1) ∧ (a = 1 → (0 ≤ b ∧ b ≤ 7) ∧ (0 ≤ c ∧ c ≤ 9))) := fun q => by first | exact zif_f c4 q.1 | exact absurd q.2.1 (by omega)
    exact s_retI ok rfl ⟨congrArg (fun z => some (Value.int (iI z))) (if_neg no).symm, k, h, r, l, n, rfl, ⟨Nat.le_refl _, Nat.le_succ _⟩, fun q _ => ⟨rfl, rfl, rfl, fun _ _ => rfl⟩, by rw [if_neg no]⟩
  · refine s_ldI2 ok rfl ?_
    refine s_if_lt ok rfl za (fun c8 => ?_) (fun c8 => ?_)
    · refine s_ci ok rfl ?_
      have no : ¬ ((0 ≤ t ∧ t < 8) ∧ (0 ≤ a ∧ a ≤ 1) ∧ (a = 1 → (0 ≤ b ∧ b ≤ 7) ∧ (0 ≤ c ∧ c ≤ 9))) := fun q => by first | exact zif_f c4 q.1 | exact absurd q.2.1 (by omega)
      exact s_retI ok rfl ⟨congrArg (fun z => some (Value.int (iI z))) (if_neg no).symm, k, h, r, l, n, rfl, ⟨Nat.le_refl _, Nat.le_succ _⟩, fun q _ => ⟨rfl, rfl, rfl, fun _ _ => rfl⟩, by rw [if_neg no]⟩
    · refine s_ldI2 ok rfl ?_
      refine s_ci ok rfl ?_
      refine s_c_le ok rfl za ⟨by omega, by omega⟩ (fun c13 => ?_) (fun c13 => ?_)
      · refine s_ldI2 ok rfl ?_
        refine s_ci ok rfl ?_
        refine s_c_eq ok rfl za ⟨by omega, by omega⟩ (fun c20 => ?_) (fun c20 => ?_)
        · refine s_ldI3 ok rfl ?_
          refine s_callS ok rfl rfl rfl rfl (ct_pisKind z2) ?_
          refine s_if_eq ok rfl zif01 (fun c27 => ?_) (fun c27 => ?_)
          · refine s_ci ok rfl ?_
            have no : ¬ ((0 ≤ t ∧ t < 8) ∧ (0 ≤ a ∧ a ≤ 1) ∧ (a = 1 → (0 ≤ b ∧ b ≤ 7) ∧ (0 ≤ c ∧ c ≤ 9))) := fun q => by first | exact zif_f c27 (q.2.2 c20).1 | exact zif_f c35 (q.2.2 c20).2
            exact s_retI ok rfl ⟨congrArg (fun z => some (Value.int (iI z))) (if_neg no).symm, k, h, r, l, n, rfl, ⟨Nat.le_refl _, Nat.le_succ _⟩, fun q _ => ⟨rfl, rfl, rfl, fun _ _ => rfl⟩, by rw [if_neg no]⟩
          · refine s_ldI4 ok rfl ?_
            refine s_callS ok rfl rfl rfl rfl (ct_pisFigure z3) ?_
            refine s_if_eq ok rfl zif01 (fun c35 => ?_) (fun c35 => ?_)
            · refine s_ci ok rfl ?_
              have no : ¬ ((0 ≤ t ∧ t < 8) ∧ (0 ≤ a ∧ a ≤ 1) ∧ (a = 1 → (0 ≤ b ∧ b ≤ 7) ∧ (0 ≤ c ∧ c ≤ 9))) := fun q => by first | exact zif_f c27 (q.2.2 c20).1 | exact zif_f c35 (q.2.2 c20).2
              exact s_retI ok rfl ⟨congrArg (fun z => some (Value.int (iI z))) (if_neg no).symm, k, h, r, l, n, rfl, ⟨Nat.le_refl _, Nat.le_succ _⟩, fun q _ => ⟨rfl, rfl, rfl, fun _ _ => rfl⟩, by rw [if_neg no]⟩
            · have t8 := zif_t c4
              have yes : (0 ≤ t ∧ t < 8) ∧ (0 ≤ a ∧ a ≤ 1) ∧ (a = 1 → (0 ≤ b ∧ b ≤ 7) ∧ (0 ≤ c ∧ c ≤ 9)) := ⟨t8, ⟨by omega, by omega⟩, fun q => by first | exact ⟨zif_t c27, zif_t c35⟩ | omega⟩
              obtain ⟨x0, x1⟩ := t8
              refine s_ldA0 ok rfl ?_
              refine s_getF ok rfl rfl rfl rfl ?_
              refine s_ldI1 ok rfl ?_
              refine s_null ok rfl ?_
              refine s_aastN ok rfl (by exact rfl) (by exact rfl) (by exact rfl) (by omega) (by omega) ?_
              refine s_ldA0 ok rfl ?_
              refine s_getF ok rfl rfl rfl rfl ?_
              refine s_ldI1 ok rfl ?_
              refine s_ldI2 ok rfl ?_
              refine s_ci ok rfl ?_
              refine s_c_eq ok rfl za ⟨by omega, by omega⟩ (fun c54 => ?_) (fun c54 => ?_)
              · refine s_ldI3 ok rfl ?_
                refine s_ldI4 ok rfl ?_
                obtain ⟨⟨b0, b1⟩, g0, g1⟩ := yes.2.2 (by omega)
                refine s_callSg ok rfl rfl rfl rfl (ct_ofKind hn b0 b1 g0 g1) (by omega) (by omega) (fun σ60 hσ60 => ?_)
                obtain ⟨k2, h2, r2, l2, rfl, gn, wv⟩ := hσ60
                refine s_goto ok rfl ?_
                refine s_aast ok rfl (by exact rfl) (by exact rfl) (by exact rfl) (by omega) (by omega) wv.1 (wk_c wv).1 ?_
                refine s_ci ok rfl ?_
                refine s_retI ok rfl ⟨congrArg (fun z => some (Value.int (iI z))) (if_pos yes).symm, k2, h2, _, l2, n + 1, rfl, ⟨by omega, by omega⟩, fun q hq => ⟨(gn q (by omega)).1, (gn q (by omega)).2.1, (gn q (by omega)).2.2.2, fun q5 q6 => ?_⟩, ?_⟩
                · rw [zv_other q5, (gn q (by omega)).2.2.1, zv_other q6]
                rw [if_pos yes]
                refine ⟨fun j => ?_, fun j hj => ?_, fun q => absurd (by omega) q, fun _ => ⟨n, zv_is, wv, hn, by omega⟩⟩
                · rw [zv_other (by omega), (gn 56 (by omega)).2.2.1, zv_eq]
                  by_cases ej : j = t
                  · rw [if_pos ⟨rfl, ej⟩, if_pos ej]
                  · rw [if_neg (fun q => ej q.2), if_neg ej]
                · rw [zv_at hj, (gn 55 (by omega)).2.2.1, zv_other (by omega)]
              · refine s_null ok rfl ?_
                refine s_aastN ok rfl (by exact rfl) (by exact rfl) (by exact rfl) (by omega) (by omega) ?_
                refine s_ci ok rfl ?_
                refine s_retI ok rfl ⟨congrArg (fun z => some (Value.int (iI z))) (if_pos yes).symm, k, h, _, l, n, rfl, ⟨Nat.le_refl _, Nat.le_succ _⟩, fun q hq => ⟨rfl, rfl, rfl, fun q5 q6 => ?_⟩, ?_⟩
                · rw [zv_other q5, zv_other q6]
                rw [if_pos yes]
                refine ⟨fun j => ?_, fun j hj => ?_, fun _ => zv_is, fun q => absurd q (by omega)⟩
                · rw [zv_other (by omega), zv_eq]
                  by_cases ej : j = t
                  · rw [if_pos ⟨rfl, ej⟩, if_pos ej]
                  · rw [if_neg (fun q => ej q.2), if_neg ej]
                · rw [zv_at hj, zv_other (by omega)]
        · have t8 := zif_t c4
          have yes : (0 ≤ t ∧ t < 8) ∧ (0 ≤ a ∧ a ≤ 1) ∧ (a = 1 → (0 ≤ b ∧ b ≤ 7) ∧ (0 ≤ c ∧ c ≤ 9)) := ⟨t8, ⟨by omega, by omega⟩, fun q => by first | exact ⟨zif_t c27, zif_t c35⟩ | omega⟩
          obtain ⟨x0, x1⟩ := t8
          refine s_ldA0 ok rfl ?_
          refine s_getF ok rfl rfl rfl rfl ?_
          refine s_ldI1 ok rfl ?_
          refine s_null ok rfl ?_
          refine s_aastN ok rfl (by exact rfl) (by exact rfl) (by exact rfl) (by omega) (by omega) ?_
          refine s_ldA0 ok rfl ?_
          refine s_getF ok rfl rfl rfl rfl ?_
          refine s_ldI1 ok rfl ?_
          refine s_ldI2 ok rfl ?_
          refine s_ci ok rfl ?_
          refine s_c_eq ok rfl za ⟨by omega, by omega⟩ (fun c54 => ?_) (fun c54 => ?_)
          · refine s_ldI3 ok rfl ?_
            refine s_ldI4 ok rfl ?_
            obtain ⟨⟨b0, b1⟩, g0, g1⟩ := yes.2.2 (by omega)
            refine s_callSg ok rfl rfl rfl rfl (ct_ofKind hn b0 b1 g0 g1) (by omega) (by omega) (fun σ60 hσ60 => ?_)
            obtain ⟨k2, h2, r2, l2, rfl, gn, wv⟩ := hσ60
            refine s_goto ok rfl ?_
            refine s_aast ok rfl (by exact rfl) (by exact rfl) (by exact rfl) (by omega) (by omega) wv.1 (wk_c wv).1 ?_
            refine s_ci ok rfl ?_
            refine s_retI ok rfl ⟨congrArg (fun z => some (Value.int (iI z))) (if_pos yes).symm, k2, h2, _, l2, n + 1, rfl, ⟨by omega, by omega⟩, fun q hq => ⟨(gn q (by omega)).1, (gn q (by omega)).2.1, (gn q (by omega)).2.2.2, fun q5 q6 => ?_⟩, ?_⟩
            · rw [zv_other q5, (gn q (by omega)).2.2.1, zv_other q6]
            rw [if_pos yes]
            refine ⟨fun j => ?_, fun j hj => ?_, fun q => absurd (by omega) q, fun _ => ⟨n, zv_is, wv, hn, by omega⟩⟩
            · rw [zv_other (by omega), (gn 56 (by omega)).2.2.1, zv_eq]
              by_cases ej : j = t
              · rw [if_pos ⟨rfl, ej⟩, if_pos ej]
              · rw [if_neg (fun q => ej q.2), if_neg ej]
            · rw [zv_at hj, (gn 55 (by omega)).2.2.1, zv_other (by omega)]
          · refine s_null ok rfl ?_
            refine s_aastN ok rfl (by exact rfl) (by exact rfl) (by exact rfl) (by omega) (by omega) ?_
            refine s_ci ok rfl ?_
            refine s_retI ok rfl ⟨congrArg (fun z => some (Value.int (iI z))) (if_pos yes).symm, k, h, _, l, n, rfl, ⟨Nat.le_refl _, Nat.le_succ _⟩, fun q hq => ⟨rfl, rfl, rfl, fun q5 q6 => ?_⟩, ?_⟩
            · rw [zv_other q5, zv_other q6]
            rw [if_pos yes]
            refine ⟨fun j => ?_, fun j hj => ?_, fun _ => zv_is, fun q => absurd q (by omega)⟩
            · rw [zv_other (by omega), zv_eq]
              by_cases ej : j = t
              · rw [if_pos ⟨rfl, ej⟩, if_pos ej]
              · rw [if_neg (fun q => ej q.2), if_neg ej]
            · rw [zv_at hj, zv_other (by omega)]
      · refine s_ci ok rfl ?_
        have no : ¬ ((0 ≤ t ∧ t < 8) ∧ (0 ≤ a ∧ a ≤ 1) ∧ (a = 1 → (0 ≤ b ∧ b ≤ 7) ∧ (0 ≤ c ∧ c ≤ 9))) := fun q => by first | exact zif_f c4 q.1 | exact absurd q.2.1 (by omega)
        exact s_retI ok rfl ⟨congrArg (fun z => some (Value.int (iI z))) (if_neg no).symm, k, h, r, l, n, rfl, ⟨Nat.le_refl _, Nat.le_succ _⟩, fun q _ => ⟨rfl, rfl, rfl, fun _ _ => rfl⟩, by rw [if_neg no]⟩
theorem ct_X4_init {E : zE} {d : Nat} {k : Nat → Nat × Nat} {h : Nat → Int → Int} {r : Nat → Int → Option Nat} {l : Nat → Nat → Int64} {n : Nat} {v : Nat} (hq : zkF k v = (4, 2)) (hn : 87 ≤ n) (hv : 87 ≤ v) (vn : v < n) {a c : Int} (c0 : 0 ≤ c) (c1 : c ≤ 100) : zCT E (d + 1) M_X4_init [.ref v, .int (iI (a)), .int (iI (c))] (zJ (k, h, r, l, n)) 1 100 (zUx (fun s => s = zJ (kN' k n (16, c.toNat), hN' (zv h v 0 a) n 0, zv (hN' r n none) v 1 (some n), hN' l n 0, n + 1))) := by
  have ok := ok_X4_init
  refine zCT_of pn_X4_init (Nat.le_of_ble_eq_true rfl) ?_
  show zGo _ _ _ _ _ _ 0 ([some (.ref v), some (.int (iI (a))), some (.int (iI (c)))], [], _, _, _)
  refine s_ldA0 ok rfl ?_
  refine s_obj ok rfl rfl rfl ?_
  refine s_ldA0 ok rfl ?_
  refine s_ldI1 ok rfl ?_
  refine s_putJ 0 ok rfl hq rfl rfl (fun q => by cases q) ?_
  refine s_ldA0 ok rfl ?_
  refine s_ldI2 ok rfl ?_
  refine s_if_ge ok rfl ⟨by omega, by omega⟩ (fun c11 => ?_) (fun c11 => ?_)
  · refine s_ldI2 ok rfl ?_
    refine s_newAJ ok hn rfl (by omega) (by omega) (by omega) (by omega) ?_
    have hq2 : zkF (kN' k n (16, c.toNat)) v = (4, 2) := by
      rw [zkF_N hn, if_neg (by omega)]
      exact hq
    refine s_putF ok rfl hq2 rfl (zfin_hi hv) ?_
    exact s_retV ok rfl ⟨rfl, rfl⟩
  · omega
theorem ct_row11 {E : zE} {d : Nat} {k : Nat → Nat × Nat} {h : Nat → Int → Int} {r : Nat → Int → Option Nat} {l : Nat → Nat → Int64} {n : Nat} (hn : 87 ≤ n) {t a c : Int} (zt : zb t) (za : zb a) (z3 : zb c) : zCT E (d + 3) M_X11_row [.ref 3, .int (iI (t)), .int (iI (a)), .int (iI (c))] (zJ (k, h, r, l, n)) 2 102 (zVx (.int (iI (if (0 ≤ t ∧ t < 8) ∧ (0 ≤ a ∧ a ≤ 2) ∧ c ≤ 100 then (if c < 0 then -14 else 0) else -1))) (fun s => ∃ k2 h2 r2 l2 n2, s = zJ (k2, h2, r2, l2, n2) ∧ (n ≤ n2 ∧ n2 ≤ n + 2) ∧ (∀ q, q < n → k2 q = k q ∧ h2 q = h q ∧ l2 q = l q ∧ (¬ q = 55 → ¬ q = 56 → r2 q = r q)) ∧ (if ((0 ≤ t ∧ t < 8) ∧ (0 ≤ a ∧ a ≤ 2) ∧ c ≤ 100) ∧ 0 ≤ c then (∀ j, r2 55 j = if j = t then none else r 55 j) ∧ (∀ j, ¬ j = t → r2 56 j = r 56 j) ∧ r2 56 t = some n ∧ n2 = n + 2 ∧ rw_ k2 h2 r2 n (n + 1) c.toNat a ∧ (∀ j, h2 (n + 1) j = 0) else r2 = r))) := by
  have ok := ok_X11_row
  refine zCT_of pn_X11_row (Nat.le_of_ble_eq_true rfl) ?_
  show zGo _ _ _ _ _ _ 0 ([some (.ref 3), some (.int (iI (t))), some (.int (iI (a))), some (.int (iI (c)))], [], _, _, _)
  refine s_ldI1 ok rfl ?_
  refine s_callS ok rfl rfl rfl rfl (ct_isShelf11 zt) ?_
  refine s_if_eq ok rfl zif01 (fun c4 => ?_) (fun c4 => ?_)
  · refine s_ci ok rfl ?_
    have no : ¬ ((0 ≤ t ∧ t < 8) ∧ (0 ≤ a ∧ a ≤ 2) ∧ c ≤ 100) := fun q => by first | exact zif_f c4 q.1 | omega
    exact s_retI ok rfl ⟨congrArg (fun z => some (Value.int (iI z))) (if_neg no).symm, k, h, r, l, n, rfl, ⟨Nat.le_refl _, by omega⟩, fun q _ => ⟨rfl, rfl, rfl, fun _ _ => rfl⟩, by rw [if_neg (fun q => no q.1)]⟩
  · refine s_ldI2 ok rfl ?_
    refine s_if_lt ok rfl za (fun c8 => ?_) (fun c8 => ?_)
    · refine s_ci ok rfl ?_
      have no : ¬ ((0 ≤ t ∧ t < 8) ∧ (0 ≤ a ∧ a ≤ 2) ∧ c ≤ 100) := fun q => by first | exact zif_f c4 q.1 | omega
      exact s_retI ok rfl ⟨congrArg (fun z => some (Value.int (iI z))) (if_neg no).symm, k, h, r, l, n, rfl, ⟨Nat.le_refl _, by omega⟩, fun q _ => ⟨rfl, rfl, rfl, fun _ _ => rfl⟩, by rw [if_neg (fun q => no q.1)]⟩
    · refine s_ldI2 ok rfl ?_
      refine s_ci ok rfl ?_
      refine s_c_gt ok rfl za ⟨by omega, by omega⟩ (fun c13 => ?_) (fun c13 => ?_)
      · refine s_ci ok rfl ?_
        have no : ¬ ((0 ≤ t ∧ t < 8) ∧ (0 ≤ a ∧ a ≤ 2) ∧ c ≤ 100) := fun q => by first | exact zif_f c4 q.1 | omega
        exact s_retI ok rfl ⟨congrArg (fun z => some (Value.int (iI z))) (if_neg no).symm, k, h, r, l, n, rfl, ⟨Nat.le_refl _, by omega⟩, fun q _ => ⟨rfl, rfl, rfl, fun _ _ => rfl⟩, by rw [if_neg (fun q => no q.1)]⟩
      · refine s_ldI3 ok rfl ?_
        refine s_ci ok rfl ?_
        refine s_c_le ok rfl z3 ⟨by omega, by omega⟩ (fun c19 => ?_) (fun c19 => ?_)
        · refine s_ldI3 ok rfl ?_
          refine s_if_ge ok rfl z3 (fun c25 => ?_) (fun c25 => ?_)
          · have t8 := zif_t c4
            refine s_ldA0 ok rfl ?_
            refine s_getF ok rfl rfl rfl rfl ?_
            refine s_ldI1 ok rfl ?_
            refine s_null ok rfl ?_
            refine s_aastN ok rfl (by exact rfl) (by exact rfl) (by exact rfl) (by omega) (by omega) ?_
            refine s_ldA0 ok rfl ?_
            refine s_getF ok rfl rfl rfl rfl ?_
            refine s_ldI1 ok rfl ?_
            obtain ⟨x0, x1⟩ := zif_t c4
            have yes : (0 ≤ t ∧ t < 8) ∧ (0 ≤ a ∧ a ≤ 2) ∧ c ≤ 100 := ⟨⟨x0, x1⟩, ⟨by omega, by omega⟩, by omega⟩
            refine s_newJ ok hn rfl (by omega) (by omega) ?_
            refine s_dupA ok rfl ?_
            refine s_ldI2 ok rfl ?_
            refine s_ldI3 ok rfl ?_
            refine s_callO ok rfl rfl rfl rfl (ct_X4_init (by rw [zkF_N hn, if_pos rfl]) (by omega) hn (by omega) (by omega) (by omega)) (by omega) (by omega) (fun σ9 e9 => ?_)
            subst e9
            have kn : zkF (kN' (kN' k n (4, 2)) (n + 1) (16, c.toNat)) n = (4, 2) := by
              rw [zkF_N (by omega), if_neg (by omega), zkF_N hn, if_pos rfl]
            have kn1 : zkF (kN' (kN' k n (4, 2)) (n + 1) (16, c.toNat)) (n + 1) = (16, c.toNat) := by
              rw [zkF_N (by omega), if_pos rfl]
            refine s_aast ok rfl (by exact rfl) (by exact rfl) (by exact rfl) (by omega) (by omega) kn rfl ?_
            refine s_ci ok rfl ?_
            refine s_retI ok rfl ⟨congrArg (fun z => some (Value.int (iI z))) (by rw [if_pos yes, if_neg (by omega)]), _, _, _, _, n + 2, rfl, ⟨by omega, by omega⟩, fun q hq => ⟨?_, ?_, ?_, fun q5 q6 => ?_⟩, ?_⟩
            · exact (if_neg (by omega)).trans (if_neg (by omega))
            · funext j
              refine (if_neg (by omega)).trans ?_
              rw [zv_other (by omega)]
              exact if_neg (by omega)
            · funext j
              exact (if_neg (by omega)).trans (if_neg (by omega))
            · funext j
              rw [zv_other q6, zv_other (by omega)]
              refine (if_neg (by omega)).trans ((if_neg (by omega)).trans ?_)
              rw [zv_other q5]
            rw [if_pos ⟨yes, by omega⟩]
            refine ⟨fun j => ?_, fun j hj => ?_, zv_is, rfl, ⟨kn, ?_, ?_, kn1, by omega, by omega, by omega⟩, fun j => ?_⟩
            · rw [zv_other (by omega), zv_other (by omega)]
              refine (if_neg (by omega)).trans ((if_neg (by omega)).trans ?_)
              rw [zv_eq]
              by_cases ej : j = t
              · rw [if_pos ⟨rfl, ej⟩, if_pos ej]
              · rw [if_neg (fun q => ej q.2), if_neg ej]
            · rw [zv_at hj, zv_other (by omega)]
              refine (if_neg (by omega)).trans ((if_neg (by omega)).trans ?_)
              rw [zv_other (by omega)]
            · refine (if_neg (by omega)).trans ?_
              rw [zv_is]
            · have : zrF (zv (zv (hN' (hN' (zv r 55 t none) n none) (n + 1) none) n 1 (some (n + 1))) 56 t (some n)) n 1 = some (n + 1) := by
                unfold zrF
                rw [zfin_hi hn]
                show zv _ 56 t _ n 1 = _
                rw [zv_other (by omega), zv_is]
              exact this
            · exact if_pos rfl
          · refine s_ci ok rfl ?_
            have yes : (0 ≤ t ∧ t < 8) ∧ (0 ≤ a ∧ a ≤ 2) ∧ c ≤ 100 := ⟨zif_t c4, ⟨by omega, by omega⟩, by omega⟩
            exact s_retI ok rfl ⟨congrArg (fun z => some (Value.int (iI z))) (by rw [if_pos yes, if_pos (by omega)]), k, h, r, l, n, rfl, ⟨Nat.le_refl _, by omega⟩, fun q _ => ⟨rfl, rfl, rfl, fun _ _ => rfl⟩, by rw [if_neg (fun q => absurd q.2 (by omega))]⟩
        · refine s_ci ok rfl ?_
          have no : ¬ ((0 ≤ t ∧ t < 8) ∧ (0 ≤ a ∧ a ≤ 2) ∧ c ≤ 100) := fun q => by first | exact zif_f c4 q.1 | omega
          exact s_retI ok rfl ⟨congrArg (fun z => some (Value.int (iI z))) (if_neg no).symm, k, h, r, l, n, rfl, ⟨Nat.le_refl _, by omega⟩, fun q _ => ⟨rfl, rfl, rfl, fun _ _ => rfl⟩, by rw [if_neg (fun q => no q.1)]⟩
theorem cR26_3 {k : Nat → Nat × Nat} {g : Nat → Int → Int} {r : Nat → Int → Option Nat} {n : Nat} {p : Int → Int} (c : cR 26 27 28 29 30 31 32 33 34 35 k g r n p (-4)) {v : Int} : cR 26 27 28 29 30 31 32 33 34 35 k (zv g 3 3 v) r n p (-4) := by
  refine ⟨c.1, fun t t0 t1 => ?_, c.2.2.1, c.2.2.2.1, c.2.2.2.2.1, c.2.2.2.2.2⟩
  obtain ⟨v9, e1, e2, e3⟩ := c.2.1 t t0 t1
  exact ⟨v9, e1, wk_fr e2 (fW_zv (by omega)), e3⟩
theorem ct_image11 {E : zE} {d : Nat} {k : Nat → Nat × Nat} {h : Nat → Int → Int} {r : Nat → Int → Option Nat} {l : Nat → Nat → Int64} {n : Nat} {p : Int → Int} (hs : pS p) (hR : cR 4 5 6 7 8 9 10 11 12 13 k h r n p (-4)) : zCT E (d + 2) M_X11_image [.ref 3] (zJ (k, h, r, l, n)) 0 0 (zVx (.int (iI (p 6))) (fun s => ∃ g r9, s = zJ (k, g, r9, l, n) ∧ (∀ q : Nat, q < 26 ∨ 35 < q → ¬ q = 3 → g q = h q) ∧ (∀ j, ¬ j = 3 → g 3 j = h 3 j) ∧ g 3 3 = 1 ∧ (∀ q, ¬ q = 27 → r9 q = r q) ∧ cR 26 27 28 29 30 31 32 33 34 35 k g r9 n p (-4))) := by
  have ok := ok_X11_image
  refine zCT_of pn_X11_image (Nat.le_of_ble_eq_true rfl) ?_
  show zGo _ _ _ _ _ _ 0 ([some (.ref 3)], [], _, _, _)
  have hp := hs.1
  have hft := hs.2.2.2.1
  have p60 := hp.2.2.2.2.2.2.2.2.2.2.2.2.1
  have p68 := hp.2.2.2.2.2.2.2.2.2.2.2.2.2.1
  have p00 := hp.1
  have p04 := hp.2.1
  have hf : ∀ q : Int, 0 ≤ q → q < p 6 → ¬ pFr p q = 4 := fun q q0 q1 => by have := pOf_gt hp q0 (by omega) (hft q q0 q1); omega
  refine s_ldA0 ok rfl ?_
  refine s_getF ok rfl rfl rfl rfl ?_
  refine s_ldA0 ok rfl ?_
  refine s_getF ok rfl rfl rfl rfl ?_
  refine s_callVvx ok rfl rfl rfl rfl rfl rfl (ct_become26_4 hR (by rw [cnP_4]; omega) p04) (fun σ8 hσ8 => ?_)
  obtain ⟨g8, r8, rfl, f8, i3, hQ⟩ := hσ8
  have n6 := cR4_n hR
  have e4 : g8 4 0 = p 6 := by rw [f8 4 (by omega)]; exact n6
  refine s_ldA0 ok rfl ?_
  refine s_ci ok rfl ?_
  refine s_putJ 3 ok rfl rfl rfl rfl (fun _ => Or.inr rfl) ?_
  refine s_ldA0 ok rfl ?_
  refine s_getF ok rfl rfl rfl rfl ?_
  refine s_getJ 0 ok rfl rfl rfl rfl ?_
  rw [show zv g8 3 3 1 4 0 = p 6 from e4]
  refine s_retI ok rfl ⟨congrArg (fun z => some (Value.int (iI z))) rfl, zv g8 3 3 1, r8, rfl, fun q hq h3 => by rw [zv_other h3]; exact f8 q hq, fun j hj => by rw [zv_at hj]; exact congrFun (f8 3 (by omega)) j, zv_is, i3, cR26_3 hQ⟩
theorem ct_restore11 {E : zE} {d : Nat} {k : Nat → Nat × Nat} {h : Nat → Int → Int} {r : Nat → Int → Option Nat} {l : Nat → Nat → Int64} {n : Nat} {p : Int → Int} (hs : pS p) (hR : cR 4 5 6 7 8 9 10 11 12 13 k h r n p (-4)) {q : Int → Int} (z3 : h 3 3 = 0 ∨ h 3 3 = 1) (hq : h 3 3 = 1 → pS q ∧ cR 26 27 28 29 30 31 32 33 34 35 k h r n q (-4)) : zCT E (d + 2) M_X11_restore [.ref 3] (zJ (k, h, r, l, n)) 0 0 (zVx (.int (iI (if h 3 3 = 0 then -3 else q 6))) (fun s => ∃ g r9, s = zJ (k, g, r9, l, n) ∧ (∀ q : Nat, q < 4 ∨ 13 < q → g q = h q) ∧ (∀ q, ¬ q = 5 → r9 q = r q) ∧ cR 4 5 6 7 8 9 10 11 12 13 k g r9 n (if h 3 3 = 0 then p else q) (-4))) := by
  have ok := ok_X11_restore
  refine zCT_of pn_X11_restore (Nat.le_of_ble_eq_true rfl) ?_
  show zGo _ _ _ _ _ _ 0 ([some (.ref 3)], [], _, _, _)
  have hp := hs.1
  have hft := hs.2.2.2.1
  have p60 := hp.2.2.2.2.2.2.2.2.2.2.2.2.1
  have p68 := hp.2.2.2.2.2.2.2.2.2.2.2.2.2.1
  have p00 := hp.1
  have p04 := hp.2.1
  have hf : ∀ q : Int, 0 ≤ q → q < p 6 → ¬ pFr p q = 4 := fun q q0 q1 => by have := pOf_gt hp q0 (by omega) (hft q q0 q1); omega
  refine s_ldA0 ok rfl ?_
  refine s_getJ 3 ok rfl rfl rfl rfl ?_
  refine s_if_eq ok rfl ⟨by omega, by omega⟩ (fun c4 => ?_) (fun c4 => ?_)
  · refine s_ci ok rfl ?_
    exact s_retI ok rfl ⟨congrArg (fun z => some (Value.int (iI z))) (if_pos c4).symm, h, r, rfl, fun _ _ => rfl, fun _ _ => rfl, by rw [if_pos c4]; exact hR⟩
  · refine s_ldA0 ok rfl ?_
    refine s_getF ok rfl rfl rfl rfl ?_
    refine s_ldA0 ok rfl ?_
    refine s_getF ok rfl rfl rfl rfl ?_
    have e3 : h 3 3 = 1 := by omega
    obtain ⟨hs2, hR2⟩ := hq e3
    have hp2 := hs2.1
    have q60 := hp2.2.2.2.2.2.2.2.2.2.2.2.2.1
    have q68 := hp2.2.2.2.2.2.2.2.2.2.2.2.2.2.1
    refine s_callVvx ok rfl rfl rfl rfl rfl rfl (ct_become4_26 hR2 (by rw [cnP_4]; omega) hp2.2.1) (fun σ8 hσ8 => ?_)
    obtain ⟨g8, r8, rfl, f8, i3, hQ⟩ := hσ8
    have n6 := cR4_n hQ
    refine s_ldA0 ok rfl ?_
    refine s_getF ok rfl rfl rfl rfl ?_
    refine s_getJ 0 ok rfl rfl rfl rfl ?_
    rw [n6]
    exact s_retI ok rfl ⟨congrArg (fun z => some (Value.int (iI z))) (if_neg c4).symm, g8, r8, rfl, f8, i3, by rw [if_neg c4]; exact hQ⟩
