theorem zTb_ok {w : Cond} (h : w ∈ zTb) : w ∈ lw_tbl ∧ goodWord w = true := List.mem_filter.mp h
theorem zGoodIn {M : zM} {ws : List Cond} (h : ∀ w ∈ ws, w ∈ zTb) : GoodIn (zW M) ws := fun w hw => ⟨zTb_in (h w hw), good_of_word (zTb_ok (h w hw)).2⟩
def zcode (M : zM) : Cond := .code M.1 M.2.1 M.2.2.1 M.2.2.2
theorem zGoodM {M M' : zM} (h : zcode M' ∈ zTb) {ws : List Cond} (hw : ∀ w ∈ ws, w ∈ zTb) : GoodIn (zW M) (ws ++ zW M') := zGoodIn fun w q => by
  rcases List.mem_append.mp q with q | q
  · exact hw w q
  · rcases List.mem_cons.mp q with q | q
    · rw [q]; exact h
    · exact q
/-- a method that can be called: its code's word, few locals, so many parameters -/
def zCal (M' : zM) (na : Nat) : Prop := zcode M' ∈ zTb ∧ M'.2.2.1 ≤ 15 ∧ M'.1.cls ≠ "java/lang/invoke/MethodHandle" ∧ M'.1.cls ≠ "java/lang/invoke/VarHandle" ∧ (parseMethodDescriptor M'.1.desc).map (fun d => d.parameters.length) = some na
theorem zpc_blind {E : zE} {σ : zS} {vs : List Value} : FrameBlind (zPc E σ vs) := fun a U g mk ⟨h1, h2, h3⟩ => ⟨h1, h2, h3.same (u := U) (U := U.calling g mk a) rfl⟩
theorem zpc_at {E : zE} {σ : zS} {vs : List Value} {H : Heap} {s U : State} {a : Array Value} (ha : a = (vs.map (ztr E)).toArray) (hR : zRel E σ H) (hSK : zSK E s) (hU : U.heap = H) (hW : s.WarmedH U.vm) : zPc E σ vs a U := ⟨ha, by rw [hU]; exact hR, hSK.warm hW⟩
def zpush (r : Option Value) (st : List Value) : List Value := match r with
  | none => st
  | some v => v :: st
/-- behind a call -/
theorem zafter {E : zE} {Q' : zQ} {mc' ms' : Nat} {p : Program} {e : Env} {R : Room} {s : State} {m : MethodId} {args a : Array Value} {below : List Frame} {meth : Method} {cd : Code} {H : Heap} {locs : List Loc} {cells slots pc : Nat} {Qf : State → Prop} {A : Array Slot} {st0 rest : List Value}
    (hr : va_Run p (eL E) e R s m args below meth cd H locs cells slots mc' ms' (F0 m pc A st0) (rest.map (ztr E)) (zQc E Q' a) (zFr E)) (hF : ∀ q ∈ locs, eB E ≤ q.base)
    (kk : ∀ (r : Option Value) (σ' : zS) (H1 : Heap) (locs1 : List Loc), Q' r σ' → zRel E σ' H1 → (∀ q ∈ locs1, eB E ≤ q.base) → W p (eL E) e R s m args below meth cd H1 locs1 (cells + mc') (slots + ms') Qf (F0 m (pc + 3) A ((zpush r rest).map (ztr E)))) : W p (eL E) e R s m args below meth cd H locs cells slots Qf (F0 m pc A st0) := by
  intro T hT X
  obtain ⟨v, st₀, t, T', L, h0, X', hL, e1, e2, ⟨r, σ', hv, hq, hR⟩, st⟩ := hr T hT X
  cases hv
  obtain ⟨t2, a1, b1⟩ := kk r σ' T'.heap (locs ++ L) hq (by rw [e1]; exact hR) (fun q hq => by
    rcases List.mem_append.mp hq with z | z
    · exact hF q z
    · exact hL q z) T' rfl X'
  refine ⟨t2, st t2 ?_, b1⟩
  cases r with
  | none => exact a1
  | some v => exact a1
/-- n arguments off the stack, in their order -/
def zpop : Nat → List Value → List Value → Option (List Value × List Value)
  | 0, acc, st => some (acc, st)
  | n + 1, acc, v :: st => zpop n (v :: acc) st
  | _ + 1, _, [] => none
theorem zpop_spec : ∀ {n : Nat} {acc st as rest : List Value}, zpop n acc st = some (as, rest) → ∃ pre : List Value, st = pre ++ rest ∧ pre.length = n ∧ as = pre.reverse ++ acc
  | 0, acc, st, as, rest, h => by cases h; exact ⟨[], rfl, rfl, rfl⟩
  | n + 1, acc, v :: st, as, rest, h => by
    obtain ⟨pre, e1, e2, e3⟩ := zpop_spec (n := n) h
    exact ⟨v :: pre, by rw [e1]; rfl, by simp [e2], by rw [e3]; simp⟩
  | _ + 1, _, [], _, _, h => by cases h
def zcat : List Value → Nat
  | [] => 0
  | .long _ :: l => zcat l + 2
  | .double _ :: l => zcat l + 2
  | _ :: l => zcat l + 1
theorem zcat_eq (E : zE) : ∀ l : List Value, ((l.map (ztr E)).map fun v => v.category).sum = zcat l
  | [] => rfl
  | v :: l => by
    have := zcat_eq E l
    simp only [List.map_cons, List.sum_cons]
    rw [this]
    cases v <;> simp [zcat, ztr, Value.category, Nat.add_comm]
/-- a call of M' with vs: one frame deeper, with a part of the room -/
def zcall (E : zE) (d : Nat) (M' : zM) (vs : List Value) (σ : zS) (bc bs : Nat) (k : Option Value → zS → Nat → Nat → Prop) : Prop := match d with
  | 0 => False
  | d' + 1 => ∃ (mc ms : Nat) (Q' : zQ), mc ≤ bc ∧ ms ≤ bs ∧ zCT E d' M' vs σ mc ms Q' ∧ ∀ r σ', Q' r σ' → k r σ' (bc - mc) (bs - ms)
theorem zroomE {d' maxL : Nat} (h : maxL ≤ 15) : d' + 1 ≤ d' + 1 ∧ 8 + (maxL + 11) + 34 * d' ≤ 34 * (d' + 1) := by omega
theorem zfits {mc bc mc' : Nat} (h1 : mc' ≤ bc) (h2 : bc ≤ mc) : mc - bc + mc' ≤ mc := by omega
theorem zsub3 {mc bc mc' : Nat} (h1 : mc' ≤ bc) (h2 : bc ≤ mc) : mc - bc + mc' = mc - (bc - mc') := by omega
/-- a static call -/
def oCallS (na : Nat) (M' : zM) (nx : Nat) : zOp := fun E d _ c K => match zpop na [] c.2.1 with
  | some (as, rest) => match Nat.ble (zcat rest) 8 with
    | true => zcall E d M' as c.2.2.1 c.2.2.2.1 c.2.2.2.2 (fun r σ' b1 b2 => K nx (c.1, zpush r rest, σ', b1, b2))
    | false => False
  | none => False
/-- a call on an object of the class ci -/
def oCallO (na : Nat) (M' : zM) (nx : Nat) : zOp := fun E d _ c K => match zpop na [] c.2.1 with
  | some (as, .ref n :: rest) => match Nat.ble (zcat rest) 8 with
    | true => zcall E d M' (.ref n :: as) c.2.2.1 c.2.2.2.1 c.2.2.2.2 (fun r σ' b1 b2 => K nx (c.1, zpush r rest, σ', b1, b2))
    | false => False
  | _ => False
def zfind : List (Nat × zM) → Nat → Option zM
  | [], _ => none
  | (c, M) :: l, k => if k = c then some M else zfind l k
theorem zfind_mem {k : Nat} {M : zM} : ∀ {l : List (Nat × zM)}, zfind l k = some M → (k, M) ∈ l
  | [], h => by cases h
  | (c, M0) :: l, h => by
    unfold zfind at h
    split at h
    · next e => cases h; rw [e]; exact List.mem_cons_self
    · exact List.mem_cons_of_mem _ (zfind_mem h)
/-- a virtual call: the method by the object's class -/
def oCallV (na : Nat) (tg : List (Nat × zM)) (nx : Nat) : zOp := fun E d _ c K => match zpop na [] c.2.1 with
  | some (as, .ref n :: rest) => match Nat.ble (zcat rest) 8 with
    | true => ∃ (q : Nat × Nat) (M' : zM), zk c.2.2.1 n = q ∧ zfind tg q.1 = some M' ∧ zcall E d M' (.ref n :: as) c.2.2.1 c.2.2.2.1 c.2.2.2.2 (fun r σ' b1 b2 => K nx (c.1, zpush r rest, σ', b1, b2))
    | false => False
  | _ => False
/-- how a virtual call comes to M' on the class C: named itself; inherited or overriding, of a family named x, declared by owner -/
def zVirt (M : zM) (idx : Nat) (C : String) (M' : zM) : Prop :=
  (M'.1.cls = C ∧ ∀ w ∈ ([.methodLink M.1.cls idx M'.1, .instanceMethod M'.1, .selects C M'.1 M'.1, .initialized C] : List Cond), w ∈ zTb) ∨
  (∃ (owner : String) (x : MethodName), M'.1 = ⟨owner, x.name, x.desc⟩ ∧ (owner ≠ "java/lang/invoke/MethodHandle" ∧ owner ≠ "java/lang/invoke/VarHandle") ∧ ∀ w ∈ ([.methodLink M.1.cls idx x, .sameMethod x.cls owner x.name x.desc, .selects C x M'.1, .instanceMethod M'.1, .initialized M'.1.cls] : List Cond), w ∈ zTb) ∨
  (∃ (owner : String) (x : MethodName) (b0 : ByteArray) (m0 : Nat) (r0 : Option FieldType), M'.1.desc = x.desc ∧ (owner ≠ "java/lang/invoke/MethodHandle" ∧ owner ≠ "java/lang/invoke/VarHandle") ∧ Cond.code ⟨owner, x.name, x.desc⟩ b0 m0 r0 ∈ zTb ∧ ∀ w ∈ ([.methodLink M.1.cls idx x, .sameMethod x.cls owner x.name x.desc, .instanceMethod ⟨owner, x.name, x.desc⟩, .selects C x M'.1, .instanceMethod M'.1, .initialized M'.1.cls] : List Cond), w ∈ zTb)
def zVT (M : zM) (idx na : Nat) (q : Nat × zM) : Prop := ∃ C T N, zCl[q.1]? = some (C, T, N) ∧ q.1 < 16 ∧ zCal q.2 na ∧ zVirt M idx C q.2
theorem zle {a b : Nat} (h : Nat.ble a b = true) : a ≤ b := Nat.le_of_ble_eq_true h
theorem zlen9 {E : zE} {pre : List Value} {na : Nat} (h : pre.length = na) : ((pre.reverse ++ []).map (ztr E)).length = na := by simp [h]
theorem zstk {E : zE} {pre rest : List Value} : (pre ++ rest).map (ztr E) = ((pre.reverse ++ []).map (ztr E)).reverse ++ rest.map (ztr E) := by simp
theorem zcallE {E : zE} {d : Nat} {M' : zM} {vs : List Value} {σ : zS} {bc bs : Nat} {k : Option Value → zS → Nat → Nat → Prop} (h : zcall E d M' vs σ bc bs k) : ∃ (d' : Nat) (mc' ms' : Nat) (Q' : zQ), d = d' + 1 ∧ mc' ≤ bc ∧ ms' ≤ bs ∧ zCT E d' M' vs σ mc' ms' Q' ∧ ∀ r σ', Q' r σ' → k r σ' (bc - mc') (bs - ms') := by
  cases d with
  | zero => exact h.elim
  | succ d' =>
    obtain ⟨mc', ms', Q', g1, g2, g3, g4⟩ := h
    exact ⟨d', mc', ms', Q', rfl, g1, g2, g3, g4⟩
theorem snd_callS {M M' : zM} {pc idx na : Nat} (hd : decode M.2.1 pc = .ok (.invokestatic idx, 3)) (hc : zCal M' na) (hw9 : ∀ w ∈ ([.methodLink M.1.cls idx M'.1, .static M'.1, .initialized M'.1.cls] : List Cond), w ∈ zTb) : zSnd M pc (oCallS na M' (pc + 3)) := by
  intro E d Q mc ms c K hK h p e s m args below meth cd X H locs A hR hL hF h1 h2
  obtain ⟨ls, st, σ, bc, bs⟩ := c
  have hx := X.1
  have hb := X.2.1
  have hts := X.2.2.2.2.2.2.1
  have hown := X.2.2.2.2.2.1
  have hSK := X.2.2.2.2.2.2.2.1
  dsimp only [oCallS] at h
  split at h
  · next as rest hp =>
    split at h
    · next hle =>
      obtain ⟨d', mc', ms', Q', rfl, g1, g2, g3, g4⟩ := zcallE h
      obtain ⟨pre, rfl, e2, rfl⟩ := zpop_spec hp
      dsimp only at g1 g2 g3 g4 h1 h2 hR ⊢
      have hcat : ((rest.map (ztr E)).map fun v => v.category).sum ≤ 8 := by rw [zcat_eq]; exact zle hle
      have hls : A.size = M.2.2.1 := hL.1
      exact zafter (rest := rest) (va_runS (As := (pre.reverse ++ []).map (ztr E)) ⟨hx, hb, X.2.2.2.2.1, hown, hts⟩ g3 (va_cwS (mc := mc') (ms := ms') na hts (zGoodM hc.1 hw9) rfl rfl rfl hc.2.2 (zroomE hc.2.1)) ⟨zpc_blind, fun U hU hW => zpc_at rfl hR hSK hU hW⟩ rfl (zlen9 e2) hls zstk (lv_room hcat) hd ⟨zfits g1 h1, zfits g2 h2⟩) hF (fun r σ' H1 locs1 hq hR1 hF1 => by
        have hw := hK _ _ (g4 r σ' hq) p e s m args below meth cd X H1 locs1 A hR1 hL hF1 (by show bc - mc' ≤ mc; omega) (by show bs - ms' ≤ ms; omega)
        dsimp only at hw
        rw [zsub3 g1 h1, zsub3 g2 h2]
        exact hw)
    · exact h.elim
  · exact h.elim
theorem snd_callI {M M' : zM} {pc idx na : Nat} (hd : decode M.2.1 pc = .ok (.invokespecial idx, 3)) (hc : zCal M' na) (hn9 : M'.1.name = "<init>") (hr9 : M'.2.2.2 = none) (hw9 : Cond.initialized M'.1.cls ∈ zTb ∧ Cond.methodLink M.1.cls idx M'.1 ∈ zTb ∧ Cond.instanceMethod M'.1 ∈ zTb) : zSnd M pc (oCallO na M' (pc + 3)) := by
  intro E d Q mc ms c K hK h p e s m args below meth cd X H locs A hR hL hF h1 h2
  obtain ⟨ls, st, σ, bc, bs⟩ := c
  have hx := X.1
  have hb := X.2.1
  have hts := X.2.2.2.2.2.2.1
  have hown := X.2.2.2.2.2.1
  have hSK := X.2.2.2.2.2.2.2.1
  dsimp only [oCallO] at h
  split at h
  · next as n rest hp =>
    split at h
    · next hle =>
      obtain ⟨d', mc', ms', Q', rfl, g1, g2, g3, g4⟩ := zcallE h
      obtain ⟨pre, rfl, e2, rfl⟩ := zpop_spec hp
      dsimp only at g1 g2 g3 g4 h1 h2 hR ⊢
      have hcat : ((rest.map (ztr E)).map fun v => v.category).sum ≤ 8 := by rw [zcat_eq]; exact zle hle
      have hls : A.size = M.2.2.1 := hL.1
      obtain ⟨y9, b9, n9, r9⟩ := M'
      dsimp only at hr9
      subst hr9
      exact zafter (rest := rest) (va_runI (As := (pre.reverse ++ []).map (ztr E)) (b := zad E n) ⟨hx, hb, X.2.2.2.2.1, hown, hts⟩ g3 (cwI (mc := mc') (ms := ms') na hts (zGoodM (ws := []) hc.1 (fun w q => by cases q)) rfl rfl rfl (hts _ (zTb_in hw9.1)) (hts _ (zTb_in hw9.2.1)) (hts _ (zTb_in hw9.2.2)) hn9 hc.2.2 (zroomE hc.2.1)) ⟨zpc_blind, fun U hU hW => zpc_at rfl hR hSK hU hW⟩ rfl (zlen9 e2) hls zstk (lv_room hcat) hd ⟨zfits g1 h1, zfits g2 h2⟩) hF (fun r σ' H1 locs1 hq hR1 hF1 => by
        have hw := hK _ _ (g4 r σ' hq) p e s m args below meth cd X H1 locs1 A hR1 hL hF1 (by show bc - mc' ≤ mc; omega) (by show bs - ms' ≤ ms; omega)
        dsimp only at hw
        rw [zsub3 g1 h1, zsub3 g2 h2]
        exact hw)
    · exact h.elim
  · exact h.elim
theorem snd_callIN {M M' : zM} {pc idx na : Nat} {host : String} (hd : decode M.2.1 pc = .ok (.invokespecial idx, 3)) (hc : zCal M' na) (hn9 : M'.1.name = "<init>") (hr9 : M'.2.2.2 = none) (hw9 : Cond.initialized M'.1.cls ∈ zTb ∧ (M.1.cls = "SlowerForTheLate" ∧ idx = 28 ∧ M'.1 = ⟨"SlowerForTheLate$Trip", "<init>", "()V"⟩ ∧ host = "SlowerForTheLate") ∧ Cond.instanceMethod M'.1 ∈ zTb) : zSnd M pc (oCallO na M' (pc + 3)) := by
  intro E d Q mc ms c K hK h p e s m args below meth cd X H locs A hR hL hF h1 h2
  obtain ⟨ls, st, σ, bc, bs⟩ := c
  have hx := X.1
  have hb := X.2.1
  have hts := X.2.2.2.2.2.2.1
  have hown := X.2.2.2.2.2.1
  have hSK := X.2.2.2.2.2.2.2.1
  dsimp only [oCallO] at h
  split at h
  · next as n rest hp =>
    split at h
    · next hle =>
      obtain ⟨d', mc', ms', Q', rfl, g1, g2, g3, g4⟩ := zcallE h
      obtain ⟨pre, rfl, e2, rfl⟩ := zpop_spec hp
      dsimp only at g1 g2 g3 g4 h1 h2 hR ⊢
      have hcat : ((rest.map (ztr E)).map fun v => v.category).sum ≤ 8 := by rw [zcat_eq]; exact zle hle
      have hls : A.size = M.2.2.1 := hL.1
      obtain ⟨y9, b9, n9, r9⟩ := M'
      dsimp only at hr9
      subst hr9
      have hnl : va_Nw (.methodLinkNest M.1.cls idx y9 host) s := by
        have e1 : y9 = _ := hw9.2.1.2.2.1
        rw [hw9.2.1.1, hw9.2.1.2.1, e1, hw9.2.1.2.2.2]
        exact hSK.2.2.2.2.2.2.2
      exact zafter (rest := rest) (va_runIN (As := (pre.reverse ++ []).map (ztr E)) (b := zad E n) ⟨hx, hb, X.2.2.2.2.1, hown, hts⟩ g3 ⟨va_cnB (mc := mc') (ms := ms') na hts (zGoodM (ws := []) hc.1 (fun w q => by cases q)) rfl rfl rfl hnl (hts _ (zTb_in hw9.1)) hc.2.2 (zroomE hc.2.1), hn9, hts _ (zTb_in hw9.2.2)⟩ ⟨zpc_blind, fun U hU hW => zpc_at rfl hR hSK hU hW⟩ rfl (zlen9 e2) hls zstk (lv_room hcat) hd ⟨zfits g1 h1, zfits g2 h2⟩) hF (fun r σ' H1 locs1 hq hR1 hF1 => by
        have hw := hK _ _ (g4 r σ' hq) p e s m args below meth cd X H1 locs1 A hR1 hL hF1 (by show bc - mc' ≤ mc; omega) (by show bs - ms' ≤ ms; omega)
        dsimp only at hw
        rw [zsub3 g1 h1, zsub3 g2 h2]
        exact hw)
    · exact h.elim
  · exact h.elim
theorem zrecv {E : zE} {σ : zS} {H : Heap} {s : State} (hR : zRel E σ H) (hSK : zSK E s) {n ci L : Nat} (hk : zk σ n = (ci, L)) (hc : ci < 16) {C : String} {T : u_T} {N : Nat} (hC : zCl[ci]? = some (C, T, N)) : ∃ cell : Cell, H[zad E n]? = some cell ∧ cell.vm.isStatics = false ∧ s.vm.findClass C = some cell.cls := by
  have hat := hR.at hk (by omega)
  rw [zent_obj hk hc] at hat
  exact va_recv (q := (C, T, N)) hSK.1 (zP1 hat) hC (q0 := 0) rfl
theorem snd_callV {M : zM} {pc idx na : Nat} {tg : List (Nat × zM)} (hd : decode M.2.1 pc = .ok (.invokevirtual idx, 3)) (htg : ∀ q ∈ tg, zVT M idx na q) : zSnd M pc (oCallV na tg (pc + 3)) := by
  intro E d Q mc ms c K hK h p e s m args below meth cd X H locs A hR hL hF h1 h2
  obtain ⟨ls, st, σ, bc, bs⟩ := c
  have hx := X.1
  have hb := X.2.1
  have hts := X.2.2.2.2.2.2.1
  have hown := X.2.2.2.2.2.1
  have hSK := X.2.2.2.2.2.2.2.1
  dsimp only [oCallV] at h
  split at h
  · next as n rest hp =>
    split at h
    · next hle =>
      obtain ⟨⟨ci, L⟩, M', q1, q2, h⟩ := h
      obtain ⟨d', mc', ms', Q', rfl, g1, g2, g3, g4⟩ := zcallE h
      obtain ⟨pre, rfl, e2, rfl⟩ := zpop_spec hp
      dsimp only at g1 g2 g3 g4 h1 h2 hR q1 q2 ⊢
      have hcat : ((rest.map (ztr E)).map fun v => v.category).sum ≤ 8 := by rw [zcat_eq]; exact zle hle
      have hls : A.size = M.2.2.1 := hL.1
      obtain ⟨C, T, N, c1, c2, hc, hv⟩ := htg _ (zfind_mem q2)
      have hrv := zrecv hR hSK q1 c2 c1
      rcases hv with ⟨hC, hw9⟩ | ⟨owner, x, hyx, ho, hw9⟩ | ⟨owner, x, b0, m0, r0, hyx, ho, h0, hw9⟩
      · exact zafter (rest := rest) ((va_runV (C := C) (As := (pre.reverse ++ []).map (ztr E)) (b := zad E n) ⟨hx, hb, X.2.2.2.2.1, hown, hts⟩ g3 (cwV (mc := mc') (ms := ms') na hts (zGoodM hc.1 hw9) rfl rfl rfl ⟨hC, hc.2.2⟩ (zroomE hc.2.1)) ⟨zpc_blind, hrv, fun U hU hW => zpc_at rfl hR hSK hU hW⟩ rfl (zlen9 e2) hls zstk (lv_room hcat) hd ⟨zfits g1 h1, zfits g2 h2⟩)) hF (fun r σ' H1 locs1 hq hR1 hF1 => by
          have hw := hK _ _ (g4 r σ' hq) p e s m args below meth cd X H1 locs1 A hR1 hL hF1 (by show bc - mc' ≤ mc; omega) (by show bs - ms' ≤ ms; omega)
          dsimp only at hw
          rw [zsub3 g1 h1, zsub3 g2 h2]
          exact hw)
      · have hna : (parseMethodDescriptor x.desc).map (fun d => d.parameters.length) = some na := by
          have := hc.2.2.2.2
          rw [hyx] at this
          exact this
        exact zafter (rest := rest) ((va_runU (C := C) (owner := owner) (As := (pre.reverse ++ []).map (ztr E)) (b := zad E n) ⟨hx, hb, X.2.2.2.2.1, hown, hts⟩ g3 (va_cwU (mc := mc') (ms := ms') na hts (zGoodM hc.1 hw9) rfl rfl rfl hyx ⟨ho.1, ho.2, hna⟩ (zroomE hc.2.1)) ⟨zpc_blind, hrv, fun U hU hW => zpc_at rfl hR hSK hU hW⟩ rfl (zlen9 e2) hls zstk (lv_room hcat) hd ⟨zfits g1 h1, zfits g2 h2⟩)) hF (fun r σ' H1 locs1 hq hR1 hF1 => by
          have hw := hK _ _ (g4 r σ' hq) p e s m args below meth cd X H1 locs1 A hR1 hL hF1 (by show bc - mc' ≤ mc; omega) (by show bs - ms' ≤ ms; omega)
          dsimp only at hw
          rw [zsub3 g1 h1, zsub3 g2 h2]
          exact hw)
      · have hna : (parseMethodDescriptor x.desc).map (fun d => d.parameters.length) = some na := by
          have := hc.2.2.2.2
          rw [hyx] at this
          exact this
        exact zafter (rest := rest) ((va_runU (C := C) (owner := owner) (As := (pre.reverse ++ []).map (ztr E)) (b := zad E n) ⟨hx, hb, X.2.2.2.2.1, hown, hts⟩ g3 (va_cwO (mc := mc') (ms := ms') na hts (zGoodM hc.1 hw9) rfl rfl rfl (zTb_in h0) ⟨ho.1, ho.2, hna⟩ (zroomE hc.2.1)) ⟨zpc_blind, hrv, fun U hU hW => zpc_at rfl hR hSK hU hW⟩ rfl (zlen9 e2) hls zstk (lv_room hcat) hd ⟨zfits g1 h1, zfits g2 h2⟩)) hF (fun r σ' H1 locs1 hq hR1 hF1 => by
          have hw := hK _ _ (g4 r σ' hq) p e s m args below meth cd X H1 locs1 A hR1 hL hF1 (by show bc - mc' ≤ mc; omega) (by show bs - ms' ≤ ms; omega)
          dsimp only at hw
          rw [zsub3 g1 h1, zsub3 g2 h2]
          exact hw)
    · exact h.elim
  · exact h.elim
theorem zobj {m : MethodId} {pc d' n : Nat} {A : Array Slot} {st : List Value} (h : n ≤ 8) : 2 * (F0 m pc A st).monitorRoom + n + 12 ≤ 34 * (d' + 1) := by
  show 2 * 0 + n + 12 ≤ _
  omega
theorem znat {n d' : Nat} (h : n ≤ 8) : 2 * 0 + n + (nativeFrameWords "java/lang/System" "arraycopy" 5 + 11) ≤ 34 * (d' + 1) := by
  have e0 : nativeFrameWords "java/lang/System" "arraycopy" 5 + 11 ≤ 26 := by decide
  omega
/-- super.m(..) -/
def oCallU (na : Nat) (M' : zM) (nx : Nat) : zOp := fun E d _ c K => match zpop na [] c.2.1 with
  | some (as, .ref n :: rest) => match Nat.ble (zcat rest) 8 with
    | true => ∃ q : Nat × Nat, zk c.2.2.1 n = q ∧ q.1 < 16 ∧ zcall E d M' (.ref n :: as) c.2.2.1 c.2.2.2.1 c.2.2.2.2 (fun r σ' b1 b2 => K nx (c.1, zpush r rest, σ', b1, b2))
    | false => False
  | _ => False
theorem zCl_in {ci : Nat} (h : ci < 16) : ∃ r, zCl[ci]? = some r := by
  have : zCl.length = 16 := by decide
  exact ⟨_, List.getElem?_eq_getElem (by omega)⟩
theorem snd_callU {M M' : zM} {pc idx na : Nat} (hd : decode M.2.1 pc = .ok (.invokespecial idx, 3)) (hc : zCal M' na) (hn9 : M'.1.name ≠ "<init>") (hw9 : ∀ w ∈ ([.methodLink M.1.cls idx M'.1, .sameMethod M'.1.cls M'.1.cls M'.1.name M'.1.desc, .superclass M.1.cls M'.1.cls, .instanceMethod M'.1, .initialized M'.1.cls] : List Cond), w ∈ zTb) : zSnd M pc (oCallU na M' (pc + 3)) := by
  intro E d Q mc ms c K hK h p e s m args below meth cd X H locs A hR hL hF h1 h2
  obtain ⟨ls, st, σ, bc, bs⟩ := c
  have hx := X.1
  have hb := X.2.1
  have hts := X.2.2.2.2.2.2.1
  have hown := X.2.2.2.2.2.1
  have hSK := X.2.2.2.2.2.2.2.1
  dsimp only [oCallU] at h
  split at h
  · next as n rest hp =>
    split at h
    · next hle =>
      obtain ⟨⟨ci, L⟩, q1, q2, h⟩ := h
      obtain ⟨d', mc', ms', Q', rfl, g1, g2, g3, g4⟩ := zcallE h
      obtain ⟨pre, rfl, e2, rfl⟩ := zpop_spec hp
      dsimp only at g1 g2 g3 g4 h1 h2 hR q1 q2 ⊢
      have hcat : ((rest.map (ztr E)).map fun v => v.category).sum ≤ 8 := by rw [zcat_eq]; exact zle hle
      have hls : A.size = M.2.2.1 := hL.1
      obtain ⟨⟨C, T, N⟩, c1⟩ := zCl_in q2
      have hrv := zrecv hR hSK q1 q2 c1
      exact zafter (rest := rest) (va_runSU (C := C) (As := (pre.reverse ++ []).map (ztr E)) (b := zad E n) (hSK.1.1 ci _ c1).2 ⟨hx, hb, X.2.2.2.2.1, hown, hts⟩ g3 (va_cwSU (mc := mc') (ms := ms') na hts (zGoodM hc.1 hw9) rfl rfl rfl ⟨hn9, hc.2.2.2.2⟩ (zroomE hc.2.1)) ⟨zpc_blind, hrv, fun U hU hW => zpc_at rfl hR hSK hU hW⟩ rfl (zlen9 e2) hls zstk (lv_room hcat) hd ⟨zfits g1 h1, zfits g2 h2⟩) hF (fun r σ' H1 locs1 hq hR1 hF1 => by
        have hw := hK _ _ (g4 r σ' hq) p e s m args below meth cd X H1 locs1 A hR1 hL hF1 (by show bc - mc' ≤ mc; omega) (by show bs - ms' ≤ ms; omega)
        dsimp only at hw
        rw [zsub3 g1 h1, zsub3 g2 h2]
        exact hw)
    · exact h.elim
  · exact h.elim
/-- Object's constructor -/
def oObj (nx : Nat) : zOp := fun _ d _ c K => match d with
  | 0 => False
  | _ + 1 => match c.2.1 with
    | .ref _ :: st => match Nat.ble (zcat st) 8 with
      | true => K nx (c.1, st, c.2.2)
      | false => False
    | _ => False
theorem snd_obj {M : zM} {pc idx : Nat} (hd : decode M.2.1 pc = .ok (.invokespecial idx, 3)) (hw : Cond.methodLink M.1.cls idx objectInit ∈ zTb ∧ Cond.instanceMethod objectInit ∈ zTb ∧ Cond.code objectInit ⟨#[0xb1]⟩ 1 none ∈ zTb) : zSnd M pc (oObj (pc + 3)) := by
  intro E d Q mc ms c K hK h p e s m args below meth cd X H locs A hR hL hF h1 h2
  obtain ⟨ls, st, σ, bc, bs⟩ := c
  have hx := X.1
  have hb := X.2.1
  have hts := X.2.2.2.2.2.2.1
  have hown := X.2.2.2.2.2.1
  have hSK := X.2.2.2.2.2.2.2.1
  dsimp only [oObj] at h
  split at h
  · exact h.elim
  · next d' =>
    split at h
    · next n st =>
      split at h
      · next hle =>
        have hcat : ((st.map (ztr E)).map fun v => v.category).sum ≤ 8 := by rw [zcat_eq]; exact zle hle
        refine W.objInit hx hb hown (hts _ (zTb_in hw.1)) (hts _ (zTb_in hw.2.1)) (hts _ (zTb_in hw.2.2)) rfl (hL.1.trans X.2.2.2.2.1.symm) rfl hd (by show 1 ≤ d' + 1; omega) (zobj hcat) ?_
        exact hK _ _ h p e s m args below meth cd X H locs A hR hL hF h1 h2
      · exact h.elim
    · exact h.elim
/-- THE ENTRY: a method's contract out of its body's run -/
def zargs : List Value → List (Option Value)
  | [] => []
  | .long x :: l => some (.long x) :: none :: zargs l
  | .double x :: l => some (.double x) :: none :: zargs l
  | v :: l => some v :: zargs l
theorem zargs_len {E : zE} : ∀ (vs : List Value), (lg_sl (vs.map (ztr E))).length = (zargs vs).length
  | [] => rfl
  | v :: l => by
    have := zargs_len (E := E) l
    cases v <;> simp_all [lg_sl, zargs, ztr, Value.category]
theorem zargs_enc {E : zE} : ∀ (vs : List Value) (i : Nat), zenc E i (zargs vs) = lv_args i (vs.map (ztr E))
  | [], _ => rfl
  | v :: l, i => by
    have h1 := zargs_enc (E := E) l (i + 1)
    have h2 := zargs_enc (E := E) l (i + 2)
    cases v <;> simp_all [zargs, zenc, lv_args, ztr, Value.category]
theorem zenc_pad {E : zE} (n : Nat) : ∀ (ls : List (Option Value)) (i : Nat), zenc E i (ls ++ List.replicate n none) = zenc E i ls
  | [], i => by
    induction n generalizing i with
    | zero => rfl
    | succ n ih => exact ih (i + 1)
  | none :: l, i => zenc_pad n l (i + 1)
  | some v :: l, i => congrArg (fun z => (i, ztr E v) :: z) (zenc_pad n l (i + 1))
theorem zCT_of {E : zE} {d : Nat} {M : zM} {vs : List Value} {σ : zS} {mc ms : Nat} {Q : zQ} (hp : plainName M.1.cls = true) (hn : (zargs vs).length ≤ M.2.2.1)
    (h : zGo E d M mc ms Q 0 (zargs vs ++ List.replicate (M.2.2.1 - (zargs vs).length) none, [], σ, mc, ms)) : zCT E d M vs σ mc ms Q := by
  refine Met.ofW (cc := M.2.1) (maxL := M.2.2.1) (ret := M.2.2.2) hp rfl ?_
  intro p e s m args below meth c s₁ B hml hv
  obtain ⟨rfl, hR, hSK⟩ := hv
  have hts := atoms_spec (ws := zW M) B.pre
  have hl := lv_entry (vs.map (ztr E)) (n := M.2.2.1) (by rw [zargs_len]; exact hn)
  rw [lg_entry_eq]
  have hw := h p e s m _ below meth c ⟨B.exec, B.bytes, B.returns, B.notSynchronized, hml, findClass_of_methodNamed B.named, hts, hSK, (name_of_methodNamed B.named B.method).1⟩ s.heap [] _ hR (by
    show lv_has _ _ (zenc E 0 _)
    rw [zenc_pad, zargs_enc]
    exact hl) (fun _ q => by cases q) (Nat.le_refl _) (Nat.le_refl _)
  dsimp only at hw
  rw [Nat.sub_self, Nat.sub_self] at hw
  exact hw
/-- System.arraycopy of ints -/
def oCopy (nx : Nat) : zOp := fun _ d _ c K => match d with
  | 0 => False
  | _ + 1 => match c.2.1 with
    | .int n :: .int dp :: .ref b :: .int sp :: .ref a :: st => ∃ (La Lb sp' dp' n' : Nat), zk c.2.2.1 a = (16, La) ∧ zk c.2.2.1 b = (16, Lb) ∧ sp = nI sp' ∧ dp = nI dp' ∧ n = nI n' ∧ La ≤ 100000 ∧ Lb ≤ 100000 ∧ sp' + n' ≤ La ∧ dp' + n' ≤ Lb ∧ zcat st ≤ 8 ∧
        K nx (c.1, st, zI c.2.2.1 (fun m j => if m = b then va_cpy (zi c.2.2.1 a) (zi c.2.2.1 b) sp' dp' n' j else zi c.2.2.1 m j), c.2.2.2)
    | _ => False
theorem snd_copy {M : zM} {pc idx : Nat} (hd : decode M.2.1 pc = .ok (.invokestatic idx, 3)) (hw : Cond.methodLink M.1.cls idx arraycopyName ∈ zTb ∧ Cond.native arraycopyName ∈ zTb ∧ Cond.static arraycopyName ∈ zTb ∧ Cond.initialized "java/lang/System" ∈ zTb) : zSnd M pc (oCopy (pc + 3)) := by
  intro E d Q mc ms c K hK h p e s m args below meth cd X H locs A hR hL hF h1 h2
  obtain ⟨ls, st, σ, bc, bs⟩ := c
  have hx := X.1
  have hb := X.2.1
  have hts := X.2.2.2.2.2.2.1
  have hown := X.2.2.2.2.2.1
  have hSK := X.2.2.2.2.2.2.2.1
  dsimp only [oCopy] at h
  split at h
  · exact h.elim
  · next d' =>
    split at h
    · next n dp b sp a st =>
      obtain ⟨La, Lb, sp', dp', n', q1, q2, rfl, rfl, rfl, l1, l2, l3, l4, l5, h⟩ := h
      have hata := hR.at q1 (by omega)
      have hatb := hR.at q2 (by omega)
      rw [zent_arr q1 (Or.inl rfl)] at hata
      rw [zent_arr q2 (Or.inl rfl)] at hatb
      have h3 := (hR.in q2 (by omega)).1
      have nn : ∀ z : Nat, z ≤ 100000 → (nI z).toInt = (z : Int) := fun z hz => nI_toInt (by omega)
      have nc : ∀ z : Nat, z ≤ 100000 → (nI z).toNatClampNeg = z := fun z hz => nI_clamp (by omega)
      have hcat : ((st.map (ztr E)).map fun v => v.category).sum ≤ 8 := by rw [zcat_eq]; exact l5
      intro T hT X9
      obtain ⟨-, k0, hk0, cm0, hkk0⟩ := (hSK.1.2 0 _ rfl).1 La (fun j => .int (zi σ a j))
      obtain ⟨-, k1, hk1, cm1, hkk1⟩ := (hSK.1.2 0 _ rfl).1 Lb (fun j => .int (zi σ b j))
      obtain ⟨vm', X', step⟩ := X9.arraycopy hx hown (hts _ (zTb_in hw.1)) (hts _ (zTb_in hw.2.1)) (hts _ (zTb_in hw.2.2.1)) (hts _ (zTb_in hw.2.2.2)) (src := zad E a) (dst := zad E b) (cs := vp_cell (eC E 16) (La, .inl (zi σ a))) (cd := vp_cell (eC E 16) (Lb, .inl (zi σ b))) (srcPos := nI sp') (destPos := nI dp') (n := nI n') (by rw [hT]; exact hata) (by rw [hT]; exact hatb)
        (fun _ h => by cases h) (fun _ h => by cases h) (fun h => by cases h) (fun h => by cases h) hk0 hk1 hkk0 hkk1 (by simp [refKind]) (nI_pos (by omega)) (nI_pos (by omega)) (nI_pos (by omega))
        (by rw [nn sp' (by omega), nn n' (by omega)]; show ¬ _ > ((arrV (eC E 16) La (fun j => .int (zi σ a j))).slots.size : Int); rw [arrV_size]; omega)
        (by rw [nn dp' (by omega), nn n' (by omega)]; show ¬ _ > ((arrV (eC E 16) Lb (fun j => .int (zi σ b j))).slots.size : Int); rw [arrV_size]; omega)
        (fun vm₁ _ i hi => by
          rw [nc n' (by omega)] at hi
          have e : (vp_cell (eC E 16) (La, .inl (zi σ a))).slots.getD ((nI sp').toNatClampNeg + i) .null = .int (zi σ a (sp' + i)) := by
            show (arrV (eC E 16) La (fun j => .int (zi σ a j))).slots.getD _ _ = _
            rw [Array.getD_eq_getD_getElem?, nc sp' (by omega), arrV_read _ _ (by omega)]
            rfl
          refine ⟨?_, ?_⟩
          · rw [e]
            rfl
          · rw [e]
            exact trivial)
        (g := F0 m pc A ((Value.int (nI n') :: .int (nI dp') :: .ref b :: .int (nI sp') :: .ref a :: st).map (ztr E))) rfl (by show A.size = _; exact hL.1.trans X.2.2.2.2.1.symm) (rest := st.map (ztr E)) rfl (by rw [hb]; exact hd) (by show 1 ≤ d' + 1; omega) (znat hcat)
      have e1 : copied (vp_cell (eC E 16) (La, .inl (zi σ a))) (vp_cell (eC E 16) (Lb, .inl (zi σ b))) (nI sp') (nI dp') (nI n') = vp_cell (eC E 16) (Lb, .inl (va_cpy (zi σ a) (zi σ b) sp' dp' n')) := by
        have := va_copied (fun z => Value.int z) (eC E 16) (eC E 16) (n1 := Lb) (dp := dp') (zi σ a) (zi σ b) l3
        unfold copied
        rw [nc sp' (by omega), nc dp' (by omega), nc n' (by omega)]
        exact this
      rw [e1] at X' step
      have hl : zad E b < H.size := (Array.getElem?_eq_some_iff.mp hatb).1
      have hheap : ((T.setVm vm').setCell (zad E b) (vp_cell (eC E 16) (Lb, .inl (va_cpy (zi σ a) (zi σ b) sp' dp' n')))).heap = H.setIfInBounds (zad E b) (vp_cell (eC E 16) (Lb, .inl (va_cpy (zi σ a) (zi σ b) sp' dp' n'))) := by rw [← hT]; rfl
      have oq : ∀ q : Nat, q ≠ zad E b → (H.setIfInBounds (zad E b) (vp_cell (eC E 16) (Lb, .inl (va_cpy (zi σ a) (zi σ b) sp' dp' n'))))[q]? = H[q]? := fun q hq => by simp [Array.getElem?_setIfInBounds, Ne.symm hq]
      have hz := zent_arr (E := E) (σ := zI σ (fun m j => if m = b then va_cpy (zi σ a) (zi σ b) sp' dp' n' j else zi σ m j)) q2 (Or.inl rfl)
      have hR9 : zRel E (zI σ (fun m j => if m = b then va_cpy (zi σ a) (zi σ b) sp' dp' n' j else zi σ m j)) (H.setIfInBounds (zad E b) (vp_cell (eC E 16) (Lb, .inl (va_cpy (zi σ a) (zi σ b) sp' dp' n')))) := by
        refine hR.upd (n := b) h3 (by simp) oq ?_ rfl rfl (fun z hz => ⟨by funext j; show (if z = b then _ else _) = _; rw [if_neg hz], rfl, rfl⟩)
        rw [hz]
        show (H.setIfInBounds _ _)[zad E b]? = some (vp_cell _ _)
        rw [Array.getElem?_setIfInBounds, if_pos rfl, if_pos hl]
        congr 3
        congr 1
        funext j
        show _ = (if b = b then _ else _)
        rw [if_pos rfl]
      obtain ⟨t, a1, b1⟩ := (fun (locs2 : List Loc) (hF2 : ∀ q ∈ locs2, eB E ≤ q.base) => hK _ _ h p e s m args below meth cd X _ locs2 A hR9 hL hF2 h1 h2) _ (fun q hq => by
          rcases List.mem_append.mp hq with z | z
          · exact hF q z
          · obtain ⟨w, -, hw⟩ := List.mem_map.mp z
            rw [← hw]
            exact zad_ge h3) _ hheap X'
      exact ⟨t, step t a1, b1⟩
    · exact h.elim
