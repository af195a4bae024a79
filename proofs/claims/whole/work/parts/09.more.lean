/-! longs in locals; super.m(..) of an inherited m -/
theorem zg_big : ∀ (l : List (Option Value)) (j : Nat), l.length ≤ j → zg l j = none
  | [], _, _ => rfl
  | a :: l, 0, h => by simp at h
  | a :: l, j + 1, h => zg_big l j (by simp at h; omega)
theorem zset_len : ∀ (ls : List (Option Value)) (k : Nat) (v : Option Value), (zset ls k v).length = ls.length
  | [], _, _ => rfl
  | _ :: _, 0, _ => rfl
  | a :: l, k + 1, v => by simp [zset, zset_len l k v]
theorem zg_set2 (ls : List (Option Value)) (k j : Nat) (v : Option Value) (w : Value) (h : zg (zset ls k v) j = some w) : (j = k ∧ v = some w) ∨ (j ≠ k ∧ zg ls j = some w) := by
  rw [zg_set] at h
  by_cases e : j = k
  · subst e
    by_cases hl : j < ls.length
    · rw [if_pos ⟨rfl, hl⟩] at h; exact Or.inl ⟨rfl, h⟩
    · rw [if_neg (by omega), zg_big _ _ (by omega)] at h; cases h
  · rw [if_neg (by omega)] at h; exact Or.inr ⟨e, h⟩
theorem zst_inv {ls : List (Option Value)} {k j : Nat} {v w : Value} (h : zg (zst ls k v) j = some w) : (j = k ∧ w = v) ∨ (j ≠ k ∧ zg ls j = some w ∧ ¬ (j + 1 = k ∧ w.category = 2)) := by
  rcases zg_set2 _ _ _ _ _ h with ⟨e, hq⟩ | ⟨e, hq⟩
  · cases hq; exact Or.inl ⟨e, rfl⟩
  · refine Or.inr ⟨e, ?_⟩
    cases k with
    | zero => exact ⟨hq, by omega⟩
    | succ k =>
      simp only [zclr] at hq
      split at hq
      · rcases zg_set2 _ _ _ _ _ hq with ⟨e1, hq⟩ | ⟨e1, hq⟩
        · cases hq
        · exact ⟨hq, by omega⟩
      · rcases zg_set2 _ _ _ _ _ hq with ⟨e1, hq⟩ | ⟨e1, hq⟩
        · cases hq
        · exact ⟨hq, by omega⟩
      · next h1 h2 =>
        refine ⟨hq, ?_⟩
        rintro ⟨e9, hc⟩
        have e9 : j = k := by omega
        subst e9
        cases w <;> simp [Value.category] at hc
        · exact h1 _ hq
        · exact h2 _ hq
def zst2 (ls : List (Option Value)) (k : Nat) (v : Value) : List (Option Value) := zset (zst ls k v) (k + 1) none
theorem zst2_mem {E : zE} {nL : Nat} {ls : List (Option Value)} {A' : Array Slot} {k : Nat} {v : Value} (h' : lv_has A' nL ((k, ztr E v) :: (zenc E 0 ls).filter (fun q => !(q.1 == k) && (!(q.1 == k + 1) && !(q.1 + 1 == k && q.2.category == 2))))) : zLs E nL (zst2 ls k v) A' := by
  refine ⟨h'.1, h'.2.1, fun q hq => ?_⟩
  obtain ⟨j, w, hj, rfl⟩ := zenc_inv hq
  rw [Nat.zero_add]
  rcases zg_set2 _ _ _ _ _ hj with ⟨e, hj⟩ | ⟨e, hj⟩
  · cases hj
  · rcases zst_inv hj with ⟨rfl, rfl⟩ | ⟨e2, hj, hn⟩
    · exact h'.2.2 _ List.mem_cons_self
    · have hm : (j, ztr E w) ∈ zenc E 0 ls := by have := zenc_mem (E := E) (i := 0) hj; simpa using this
      refine h'.2.2 _ (List.mem_cons_of_mem _ (List.mem_filter.mpr ⟨hm, ?_⟩))
      have hcat : (ztr E w).category = w.category := by cases w <;> rfl
      simp only [hcat, Bool.and_eq_true, Bool.not_eq_true', beq_eq_false_iff_ne, ne_eq, Bool.and_eq_false_iff]
      refine ⟨e2, e, ?_⟩
      by_cases z : j + 1 = k
      · exact Or.inr (fun q => hn ⟨z, q⟩)
      · exact Or.inl z
def oStL (k nx : Nat) : zOp := fun _ _ _ c K => match c.2.1 with
  | .long x :: st => K nx (zst2 c.1 k (.long x), st, c.2.2)
  | _ => False
def oLcmp (nx : Nat) : zOp := fun _ _ _ c K => match c.2.1 with
  | .long y :: .long x :: st => K nx (c.1, .int (lg_cmp x y) :: st, c.2.2)
  | _ => False
theorem snd_stLn {M : zM} {pc : Nat} {i : Nat} {k9 : Fin 4} (hi : (k9 : Nat) = i) (hd : decode M.2.1 pc = .ok (.lstore_n k9, 1)) (hn : i + 1 < M.2.2.1) : zSnd M pc (oStL i (pc + 1)) := by
  intro E d Q mc ms c K hK h p e s m args below meth cd X H locs A hR hL hF h1 h2
  obtain ⟨ls, st, σ, bc, bs⟩ := c
  have hx := X.1
  have hb := X.2.1
  have hts := X.2.2.2.2.2.2.1
  have hown := X.2.2.2.2.2.1
  have hSK := X.2.2.2.2.2.2.2.1
  dsimp only [oStL] at h
  split at h
  · next x st => exact lv_lstore_n hx hb hd hi hL hn rfl (fun A9 h9 => hK _ _ h p e s m args below meth cd X H locs A9 hR (zst2_mem h9) hF h1 h2)
  · exact h.elim
theorem snd_stL {M : zM} {pc : Nat} {i : Nat} (hd : decode M.2.1 pc = .ok (.lstore i, 2)) (hn : i + 1 < M.2.2.1) : zSnd M pc (oStL i (pc + 2)) := by
  intro E d Q mc ms c K hK h p e s m args below meth cd X H locs A hR hL hF h1 h2
  obtain ⟨ls, st, σ, bc, bs⟩ := c
  have hx := X.1
  have hb := X.2.1
  have hts := X.2.2.2.2.2.2.1
  have hown := X.2.2.2.2.2.1
  have hSK := X.2.2.2.2.2.2.2.1
  dsimp only [oStL] at h
  split at h
  · next x st => exact lv_lstore hx hb hd hL hn rfl (fun A9 h9 => hK _ _ h p e s m args below meth cd X H locs A9 hR (zst2_mem h9) hF h1 h2)
  · exact h.elim
theorem snd_lcmp {M : zM} {pc : Nat} (hd : decode M.2.1 pc = .ok (.lcmp, 1)) : zSnd M pc (oLcmp (pc + 1)) := by
  intro E d Q mc ms c K hK h p e s m args below meth cd X H locs A hR hL hF h1 h2
  obtain ⟨ls, st, σ, bc, bs⟩ := c
  have hx := X.1
  have hb := X.2.1
  have hts := X.2.2.2.2.2.2.1
  have hown := X.2.2.2.2.2.1
  have hSK := X.2.2.2.2.2.2.2.1
  dsimp only [oLcmp] at h
  split at h
  · exact W.lcmp hx hb hd (hK _ _ h p e s m args below meth cd X H locs A hR hL hF h1 h2)
  · exact h.elim
theorem zsub2 {v : Vm} {c d : ClassId} {k : Class} (h : v.classes[c]? = some k) (hs : k.super = some d) : v.isSubclass c d = true := by
  have hl : c < v.classes.size := (Array.getElem?_eq_some_iff.mp h).1
  obtain ⟨n, hn⟩ : ∃ n, v.classes.size = n + 1 := ⟨v.classes.size - 1, (Nat.succ_pred_eq_of_pos (Nat.lt_of_le_of_lt (Nat.zero_le c) hl)).symm⟩
  unfold Vm.isSubclass
  rw [hn]
  simp [Vm.isSubclassAux, h, hs]
theorem zcallSU2 {p : Program} {l : Launch} {e : Env} {R : Room} {s : State} {m : MethodId} {args : Array Value} {below : List Frame} {meth : Method} {c : Code} {T : State} {locs : List Loc} {cells slots : Nat} (X : Stand p l e R s m args below meth c T locs cells slots) (hexec : p.tables.exec = Jvm.exec) {own : String} {index : Nat} {x y : MethodName} {bytes : ByteArray} {maxL : Nat} {ret : Option FieldType}
    (hown : s.vm.findClass own = some m.cls) (hlink : (Cond.methodLink own index x).before args s = true) (hsame : (Cond.sameMethod x.cls y.cls x.name x.desc).before args s = true) (hsup : (Cond.superclass own x.cls).before args s = true) (hsup2 : (Cond.superclass x.cls y.cls).before args s = true) (hy : y = ⟨y.cls, x.name, x.desc⟩)
    (hinst : (Cond.instanceMethod y).before args s = true) (hcode : (Cond.code y bytes maxL ret).before args s = true) (hno : x.name ≠ "<init>")
    {W : Nat} {Pre : Pt → Array Value → Prop} {Post : Pt → Array Value → Option Value → Pt → Prop} (hK : Back l R p e below s args y 3 W Pre Post)
    {b : Addr} {cellB : Cell} {kB : Class} (hcell : T.heap[b]? = some cellB) (hobj : cellB.vm.isStatics = false) (hkB : s.vm.classes[cellB.cls]? = some kB)
    {g : JFrame} (hg : g.method = m) (hsize : g.locals.size = c.maxLocals) {argsL rest : List Value} (hlen : ∀ sig, parseMethodDescriptor y.desc = some sig → argsL.length = sig.parameters.length)
    (hstack : g.stack = argsL.reverse ++ .ref b :: rest) (hW : 2 * g.monitorRoom + (rest.map fun v => v.category).sum ≤ W) (hdg : decode c.code g.pc = .ok (.invokespecial index, 3))
    (hpre : ∀ vm₁, s.WarmedH vm₁ → Pre ⟨T.setVm vm₁, locs, cells, slots⟩ (Value.ref b :: argsL).toArray) :
    ∃ (v : Option Value) (vm₁ : Vm) (B : Pt), s.WarmedH vm₁ ∧ Stand p l e R s m args below meth c B.U B.locs B.cells B.slots ∧ Post ⟨T.setVm vm₁, locs, cells, slots⟩ (Value.ref b :: argsL).toArray v B ∧
      ∀ target, Steps p.tables e below (B.U.setTop { g with pc := g.pc + 3, stack := v.toList ++ rest }) target → Steps p.tables e below (T.setTop g) target := by
  obtain ⟨mk, methM, hnamed, hmethM, hstM, habM⟩ := Cond.instanceMethod_spec hinst
  obtain ⟨methM', cM, hmethM', -, -, -, -, -, -, hsigM⟩ := Cond.code_spec hnamed hcode
  cases hmethM.symm.trans hmethM'
  obtain ⟨ps, dk, kp, hps, hdk, hkp, hsuper, -, -, hnid⟩ := Cond.superclass_spec hown hsup
  obtain ⟨ps2, dk2, kp2, hps2, hdk2, hkp2, hsuper2, -, -, -⟩ := Cond.superclass_spec hps hsup2
  have hn : s.methodNamed? ⟨y.cls, x.name, x.desc⟩ = some mk := by rw [← hy]; exact hnamed
  have hpm : ps2 = mk.cls := Option.some.inj (hps2.symm.trans (findClass_of_methodNamed hnamed))
  have hsub : s.vm.isSubclass ps mk.cls = true := by rw [← hpm]; exact zsub2 hdk2 hsuper2
  obtain ⟨vm₁, X₁, hstep₁⟩ := X.invokespecialUp hexec hown hlink hsame hn hmethM hstM habM hno hdk hnid hps hsuper hsub (a := b) (cell := cellB) hcell
    (fun z h => by rw [h] at hobj; cases hobj) hkB (g := g) hg (argsL := argsL) (rest := rest) (hlen _ hsigM) hstack hdg
  obtain ⟨v, B, X', hpost, hsteps⟩ := hK m meth c ⟨T.setVm vm₁, locs, cells, slots⟩ { g with stack := rest } (.invokespecial index) mk (Value.ref b :: argsL).toArray X₁ hg hsize hdg hW (X₁.named hnamed) (hpre vm₁ X₁.warmed)
  exact ⟨v, vm₁, B, X₁.warmed, X', hpost, fun target h => hstep₁ _ (by rw [doInvoke_state]; exact hsteps.trans h)⟩
theorem zrunSU2 {p : Program} {l : Launch} {e : Env} {R : Room} {s : State} {m : MethodId} {args : Array Value} {below : List Frame} {meth : Method} {c : Code} {H : Heap} {locs : List Loc} {cells slots : Nat} {x y : MethodName} {bytes cc : ByteArray} {maxL nL mc ms n index : Nat} {ret : Option FieldType} {ws : List Cond} {rm : Room} {Pc : Array Value → State → Prop} {Qc : Array Value → State → Outcome → State → Prop} {free : Addr → Prop} {Ts : List Cond} {own C : String} {cC : ClassId} {b : Addr} {As rest : List Value} {g : JFrame}
    (hat : ClassAt s C cC) (S : CallFix p m c cc nL s args Ts own) (hM : Met l y ws rm Pc Qc mc ms free)
    (hbk : rm.cells = mc ∧ rm.slots = ms ∧ rm.frames + 1 ≤ R.frames ∧ 8 + (maxL + 11) + rm.locals ≤ R.locals ∧ (∀ w ∈ ws, ∀ (a' : Array Value) (U : State), s.WarmedH U.vm → w.before a' U = true) ∧ Cond.code y bytes maxL ret ∈ ws)
    (hlink : (Cond.methodLink own index x).before args s = true) (hsame : (Cond.sameMethod x.cls y.cls x.name x.desc).before args s = true) (hsup : (Cond.superclass own x.cls).before args s = true) (hsup2 : (Cond.superclass x.cls y.cls).before args s = true) (hy : y = ⟨y.cls, x.name, x.desc⟩) (hini : (Cond.initialized y.cls).before args s = true)
    (hinst : (Cond.instanceMethod y).before args s = true) (hcode : (Cond.code y bytes maxL ret).before args s = true) (hno : x.name ≠ "<init>") (hlen : ∀ sig, parseMethodDescriptor y.desc = some sig → n = sig.parameters.length) (hp : PreV s H C b Pc As)
    (hg : g.method = m) (hn : As.length = n) (hsize : g.locals.size = nL) (hstack : g.stack = As.reverse ++ .ref b :: rest) (hW : 2 * g.monitorRoom + (rest.map fun v => v.category).sum ≤ 8) (hdg : decode cc g.pc = .ok (.invokespecial index, 3)) (hf : cells + mc ≤ R.cells ∧ slots + ms ≤ R.slots) :
    va_Run p l e R s m args below meth c H locs cells slots mc ms g rest (Qc (Value.ref b :: As).toArray) (free) := by
  obtain ⟨hrc, hrs, hfr, hlo, hws, hcw⟩ := hbk
  have hK : Back l R p e below s args y 3 8 (PreOf R mc ms Pc) (PostOf Qc mc ms free) := back_of (bytes := bytes) (maxL := maxL) (ret := ret) hM hp.1 hrc hrs hfr hlo hws hcw (fun a' U hW => word_at hW (Or.inl (by first | rfl | simp [Cond.onTables, Cond.keeps, Cond.steady])) hini)
  obtain ⟨hx, hb, hml, ho, -⟩ := S
  obtain ⟨-, ⟨cellB, hcB, hoB, hclB⟩, hPc⟩ := hp
  obtain ⟨hfc, kB, hkB, -⟩ := hat
  cases hfc.symm.trans hclB
  intro T hT X
  obtain ⟨v, vm₁, ⟨U', l2, c2, s2⟩, hW₁, X', ⟨g', mk, t, L, e1, e2, hq, h1, hL, h2, h3⟩, st⟩ := zcallSU2 X hx (x := x) (bytes := bytes) (maxL := maxL) (ret := ret) ho hlink hsame hsup hsup2 hy hinst hcode hno hK (by rw [hT]; exact hcB) hoB hkB hg (hsize.trans hml.symm) (argsL := As) (rest := rest) (fun sig h => hn.trans (hlen sig h)) hstack hW (by rw [hb]; exact hdg)
    (fun vm₁ hW₁ => ⟨hf.1, hf.2, hPc (T.setVm vm₁) hT hW₁⟩)
  dsimp only [Pt.U, Pt.locs, Pt.cells, Pt.slots] at X' e1 e2 h1 h2 h3 st
  subst h1; subst h2; subst h3
  exact ⟨v, (T.setVm vm₁).calling g' mk (Value.ref b :: As).toArray, t, U', L, hT, X', hL, e1, e2, hq, st⟩
theorem snd_callU2 {M M' : zM} {pc idx na : Nat} {x : MethodName} (hd : decode M.2.1 pc = .ok (.invokespecial idx, 3)) (hc : zCal M' na) (hn9 : x.name ≠ "<init>") (hy : M'.1 = ⟨M'.1.cls, x.name, x.desc⟩) (w1 : Cond.methodLink M.1.cls idx x ∈ zTb) (w2 : Cond.sameMethod x.cls M'.1.cls x.name x.desc ∈ zTb) (w3 : Cond.superclass M.1.cls x.cls ∈ zTb) (w4 : Cond.superclass x.cls M'.1.cls ∈ zTb) (w5 : Cond.instanceMethod M'.1 ∈ zTb) (w6 : Cond.initialized M'.1.cls ∈ zTb) : zSnd M pc (oCallU na M' (pc + 3)) := by
  intro E d Q mc ms c K hK h p e s m args below meth cd X H locs A hR hL hF h1 h2
  obtain ⟨ls, st, σ, bc, bs⟩ := c
  have hx := X.1
  have hb := X.2.1
  have hts := X.2.2.2.2.2.2.1
  have hown := X.2.2.2.2.2.1
  have hSK := X.2.2.2.2.2.2.2.1
  dsimp only [oCallU] at h
  split at h
  · next as n rest hp =>
    split at h
    · next hle =>
      obtain ⟨⟨ci, L⟩, q1, q2, h⟩ := h
      obtain ⟨d', mc', ms', Q', rfl, g1, g2, g3, g4⟩ := zcallE h
      obtain ⟨pre, rfl, e2, rfl⟩ := zpop_spec hp
      dsimp only at g1 g2 g3 g4 h1 h2 hR q1 q2 ⊢
      have hcat : ((rest.map (ztr E)).map fun v => v.category).sum ≤ 8 := by rw [zcat_eq]; exact zle hle
      have hls : A.size = M.2.2.1 := hL.1
      obtain ⟨⟨C, T, N⟩, c1⟩ := zCl_in q2
      have hrv := zrecv hR hSK q1 q2 c1
      have hgood : GoodIn (zW M) (zW M') := zGoodM (ws := []) hc.1 (fun w q => by cases q)
      exact zafter (rest := rest) (zrunSU2 (C := C) (x := x) (n := na) (bytes := M'.2.1) (maxL := M'.2.2.1) (ret := M'.2.2.2) (As := (pre.reverse ++ []).map (ztr E)) (b := zad E n) (hSK.1.1 ci _ c1).2 ⟨hx, hb, X.2.2.2.2.1, hown, hts⟩ g3 ⟨rfl, rfl, (zroomE hc.2.1).1, (zroomE hc.2.1).2, pay_in hts hgood, List.mem_cons_self⟩ (hts _ (zTb_in w1)) (hts _ (zTb_in w2)) (hts _ (zTb_in w3)) (hts _ (zTb_in w4)) hy (hts _ (zTb_in w6)) (hts _ (zTb_in w5)) (hts _ (zTb_in hc.1)) hn9 (fun sig h => by have h2 := hc.2.2.2.2; rw [h] at h2; exact (Option.some.inj h2).symm) ⟨zpc_blind, hrv, fun U hU hW => zpc_at rfl hR hSK hU hW⟩ rfl (zlen9 e2) hls zstk (lv_room hcat) hd ⟨zfits g1 h1, zfits g2 h2⟩) hF (fun r σ' H1 locs1 hq hR1 hF1 => by
        have hw := hK _ _ (g4 r σ' hq) p e s m args below meth cd X H1 locs1 A hR1 hL hF1 (by show bc - mc' ≤ mc; omega) (by show bs - ms' ≤ ms; omega)
        dsimp only at hw
        rw [zsub3 g1 h1, zsub3 g2 h2]
        exact hw)
    · exact h.elim
  · exact h.elim
def oMax (nx : Nat) : zOp := fun _ d _ c K => match d with
  | 0 => False
  | _ + 1 => match c.2.1 with
    | .int y :: .int x :: st => match Nat.ble (zcat st) 8 with
      | true => K nx (c.1, .int (if x < y then y else x) :: st, c.2.2)
      | false => False
    | _ => False
theorem zroom13max {n d' : Nat} (h : n ≤ 8) : n + 13 ≤ 34 * (d' + 1) := by omega
theorem snd_max {M : zM} {pc idx : Nat} (hd : decode M.2.1 pc = .ok (.invokestatic idx, 3)) (w1 : Cond.methodLink M.1.cls idx Lib.Math.max.name ∈ zTb) (w2 : Cond.static Lib.Math.max.name ∈ zTb) (w3 : Cond.initialized "java/lang/Math" ∈ zTb) (w4 : Cond.code Lib.Math.max.name Lib.Math.max.code 2 (some .int) ∈ zTb) : zSnd M pc (oMax (pc + 3)) := by
  intro E d Q mc ms c K hK h p e s m args below meth cd X H locs A hR hL hF h1 h2
  obtain ⟨ls, st, σ, bc, bs⟩ := c
  have hx := X.1
  have hb := X.2.1
  have hts := X.2.2.2.2.2.2.1
  have hown := X.2.2.2.2.2.1
  have hSK := X.2.2.2.2.2.2.2.1
  dsimp only [oMax] at h
  split at h
  · exact h.elim
  · next d' =>
    split at h
    · next y x st =>
      split at h
      · next hle =>
        have hcat : ((st.map (ztr E)).map fun v => v.category).sum ≤ 8 := by rw [zcat_eq]; exact zle hle
        exact va_mmax hx hb (X.2.2.2.2.1.trans hL.1.symm) hown (hts _ (zTb_in w1)) (hts _ (zTb_in w2)) (hts _ (zTb_in w3)) (hts _ (zTb_in w4)) (by show 1 ≤ d' + 1; omega) (zroom13max hcat) (Nat.sub_le _ _) (Nat.sub_le _ _) hd (hK _ _ h p e s m args below meth cd X H locs A hR hL hF h1 h2)
      · exact h.elim
    · exact h.elim
def oMin (nx : Nat) : zOp := fun _ d _ c K => match d with
  | 0 => False
  | _ + 1 => match c.2.1 with
    | .int y :: .int x :: st => match Nat.ble (zcat st) 8 with
      | true => K nx (c.1, .int (if y < x then y else x) :: st, c.2.2)
      | false => False
    | _ => False
theorem zroom13min {n d' : Nat} (h : n ≤ 8) : n + 13 ≤ 34 * (d' + 1) := by omega
theorem snd_min {M : zM} {pc idx : Nat} (hd : decode M.2.1 pc = .ok (.invokestatic idx, 3)) (w1 : Cond.methodLink M.1.cls idx Lib.Math.min.name ∈ zTb) (w2 : Cond.static Lib.Math.min.name ∈ zTb) (w3 : Cond.initialized "java/lang/Math" ∈ zTb) (w4 : Cond.code Lib.Math.min.name Lib.Math.min.code 2 (some .int) ∈ zTb) : zSnd M pc (oMin (pc + 3)) := by
  intro E d Q mc ms c K hK h p e s m args below meth cd X H locs A hR hL hF h1 h2
  obtain ⟨ls, st, σ, bc, bs⟩ := c
  have hx := X.1
  have hb := X.2.1
  have hts := X.2.2.2.2.2.2.1
  have hown := X.2.2.2.2.2.1
  have hSK := X.2.2.2.2.2.2.2.1
  dsimp only [oMin] at h
  split at h
  · exact h.elim
  · next d' =>
    split at h
    · next y x st =>
      split at h
      · next hle =>
        have hcat : ((st.map (ztr E)).map fun v => v.category).sum ≤ 8 := by rw [zcat_eq]; exact zle hle
        exact va_mmin hx hb (X.2.2.2.2.1.trans hL.1.symm) hown (hts _ (zTb_in w1)) (hts _ (zTb_in w2)) (hts _ (zTb_in w3)) (hts _ (zTb_in w4)) (by show 1 ≤ d' + 1; omega) (zroom13min hcat) (Nat.sub_le _ _) (Nat.sub_le _ _) hd (hK _ _ h p e s m args below meth cd X H locs A hR hL hF h1 h2)
      · exact h.elim
    · exact h.elim
