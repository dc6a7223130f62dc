/-! my own small kit: worlds of a fixed layout, a method's answer as a function of the state -/
abbrev clsL : List vw_C := [(RX0, TX0, 4), (RX1, TX1, 1), (RX3, TX3, 5), (RX4, TX4, 4), (RX6, TX6, 8), (RX7, TX7, 2), (RX8, TX8, 9), (RX9, TX9, 4), (RX10, TX10, 12), (RX11, TX11, 35)]
def gtbl : List Cond := lw_tbl.filter goodWord
theorem gtbl_in {w : Cond} (h : w ∈ gtbl) : w ∈ lw_tbl := (List.mem_filter.mp h).1
theorem gtbl_good {w : Cond} (h : w ∈ gtbl) : (w.onTables && w.keeps) = true ∨ ∃ ty, w = .arrayClass ty := good_of_word (List.mem_filter.mp h).2
theorem gtbl_gi {y : Cond} (h : y ∈ gtbl) : GoodIn gtbl (y :: gtbl) := fun w hw => by
  rcases List.mem_cons.mp hw with rfl | hw
  · exact ⟨h, gtbl_good h⟩
  · exact ⟨hw, gtbl_good hw⟩
theorem gtbl_gc {a : Cond} (ha : a ∈ gtbl) {ws : List Cond} (h : GoodIn gtbl ws) : GoodIn gtbl (a :: ws) := fun w hw => by
  rcases List.mem_cons.mp hw with rfl | hw
  · exact ⟨ha, gtbl_good ha⟩
  · exact h w hw
/-- the pure state: ints and longs by cell and place -/
abbrev St : Type := (Nat → Nat → Int32) × (Nat → Nat → Int64)
def su (σ : St) (k i : Nat) (v : Int32) : St := (fun a => if a = k then upd (σ.1 a) i v else σ.1 a, σ.2)
def sl (σ : St) (k i : Nat) (v : Int64) : St := (σ.1, fun a => if a = k then vp_updL (σ.2 a) i v else σ.2 a)
def sc (σ : St) (k : Nat) (f : Nat → Int32) : St := (fun a => if a = k then f else σ.1 a, σ.2)
theorem su_o {σ : St} {k i j : Nat} {v : Int32} (h : j ≠ k) : (su σ k i v).1 j = σ.1 j := if_neg h
theorem su_s {σ : St} {k i : Nat} {v : Int32} : (su σ k i v).1 k = upd (σ.1 k) i v := if_pos rfl
theorem sl_o {σ : St} {k i j : Nat} {v : Int64} (h : j ≠ k) : (sl σ k i v).2 j = σ.2 j := if_neg h
theorem sc_o {σ : St} {k j : Nat} {f : Nat → Int32} (h : j ≠ k) : (sc σ k f).1 j = σ.1 j := if_neg h
theorem sc_s {σ : St} {k : Nat} {f : Nat → Int32} : (sc σ k f).1 k = f := if_pos rfl
def inb (i : Int32) (n : Nat) : Bool := decide (0 ≤ i.toInt) && decide (i.toInt < (n : Int))
theorem inb_in {i : Int32} {n : Nat} (h : inb i n = true) : vp_in i n := by
  unfold inb at h
  simp only [Bool.and_eq_true, decide_eq_true_eq] at h
  exact vp_in_iff.mpr h
theorem inb_ne {i : Int32} {n : Nat} (h : inb i n = true) : n ≠ 0 := by
  unfold inb at h
  simp only [Bool.and_eq_true, decide_eq_true_eq] at h
  omega
/-- what a method's pure function is made of -/
def rd {β : Type} (L : Nat → Nat) (σ : St) (k : Nat) (i : Int32) (K : Int32 → Option β) : Option β := if inb i (L k) then K (σ.1 k i.toNatClampNeg) else none
def wr {β : Type} (L : Nat → Nat) (σ : St) (k : Nat) (i v : Int32) (K : St → Option β) : Option β := if inb i (L k) then K (su σ k i.toNatClampNeg v) else none
def gd {β : Type} (b : Bool) (o : Option β) : Option β := if b then o else none
def pt {β : Type} (σ : St) (K : St → Option β) : Option β := K σ
def pv {α β : Type} (x : α) (K : α → Option β) : Option β := K x
def jn {α β : Type} (k : α) (f : α → Option β) : Option β := f k
def cl {α β : Type} (o : Option (St × α)) (K : St → α → Option β) : Option β := o.bind (fun p => K p.1 p.2)
theorem rd_e {β : Type} {L : Nat → Nat} {σ : St} {k : Nat} {i : Int32} {K : Int32 → Option β} {r : β} (h : rd L σ k i K = some r) : inb i (L k) = true ∧ K (σ.1 k i.toNatClampNeg) = some r := by
  unfold rd at h
  split at h
  · exact ⟨by assumption, h⟩
  · cases h
theorem wr_e {β : Type} {L : Nat → Nat} {σ : St} {k : Nat} {i v : Int32} {K : St → Option β} {r : β} (h : wr L σ k i v K = some r) : inb i (L k) = true ∧ K (su σ k i.toNatClampNeg v) = some r := by
  unfold wr at h
  split at h
  · exact ⟨by assumption, h⟩
  · cases h
theorem gd_e {β : Type} {b : Bool} {o : Option β} {r : β} (h : gd b o = some r) : b = true ∧ o = some r := by
  unfold gd at h
  split at h
  · exact ⟨by assumption, h⟩
  · cases h
theorem cl_e {α β : Type} {o : Option (St × α)} {K : St → α → Option β} {r : β} (h : cl o K = some r) : ∃ (σ : St) (a : α), o = some (σ, a) ∧ K σ a = some r := by
  unfold cl at h
  cases o with
  | none => cases h
  | some p => exact ⟨p.1, p.2, rfl, h⟩
theorem if_t {β : Type} {c : Prop} {_ : Decidable c} {a b : Option β} {r : β} (hc : c) (h : (if c then a else b) = some r) : a = some r := by rwa [if_pos hc] at h
theorem if_f {β : Type} {c : Prop} {_ : Decidable c} {a b : Option β} {r : β} (hc : ¬ c) (h : (if c then a else b) = some r) : b = some r := by rwa [if_neg hc] at h
theorem pv_t {α β : Type} {c : Prop} {_ : Decidable c} {a b : α} {K : α → Option β} {r : β} (hc : c) (h : pv (if c then a else b) K = some r) : pv a K = some r := by rwa [if_pos hc] at h
theorem pv_f {α β : Type} {c : Prop} {_ : Decidable c} {a b : α} {K : α → Option β} {r : β} (hc : ¬ c) (h : pv (if c then a else b) K = some r) : pv b K = some r := by rwa [if_neg hc] at h
theorem no_e {β : Type} {P : Prop} {r : β} (h : (none : Option β) = some r) : P := by cases h
def isB (v : Int32) : Bool := decide (v = 0) || decide (v = 1)
theorem isB_n {v : Int32} (h : isB v = true) : narrow .boolean (.int v) = .int v := by
  unfold isB at h
  simp only [Bool.or_eq_true, decide_eq_true_eq] at h
  rcases h with rfl | rfl <;> rfl
def arrOk (L : Nat → Nat) (k k2 : Nat) (sp dp n : Int32) : Bool := decide (¬ sp < 0) && decide (¬ dp < 0) && decide (¬ n < 0) && decide (L k ≠ 0) && decide (L k2 ≠ 0) && decide (sp.toNatClampNeg + n.toNatClampNeg ≤ L k) && decide (dp.toNatClampNeg + n.toNatClampNeg ≤ L k2)
theorem arrOk_e {L : Nat → Nat} {k k2 : Nat} {sp dp n : Int32} (h : arrOk L k k2 sp dp n = true) : ¬ sp < 0 ∧ ¬ dp < 0 ∧ ¬ n < 0 ∧ L k ≠ 0 ∧ L k2 ≠ 0 ∧ sp.toNatClampNeg + n.toNatClampNeg ≤ L k ∧ dp.toNatClampNeg + n.toNatClampNeg ≤ L k2 := by
  unfold arrOk at h
  simp only [Bool.and_eq_true, decide_eq_true_eq] at h
  obtain ⟨⟨⟨⟨⟨⟨a, b⟩, c⟩, d⟩, e⟩, f⟩, g⟩ := h
  exact ⟨a, b, c, d, e, f, g⟩
/-- the layout: D, addresses, the classes of int[], int[][], boolean[] -/
abbrev GG : Type := va_G × (Nat → Nat) × ClassId × ClassId × ClassId
def tysG (g : GG) : List (ClassId × FieldType) := [(g.2.2.1, .int), (g.2.2.2.1, .array .int), (g.2.2.2.2, .boolean)]
def KS (g : GG) (s : State) : Prop := va_K g.1 clsL (tysG g) s
def wl (ad : Nat → Nat) (N : Nat) (ent : Nat → va_E) : va_W := (List.range N).map (fun k => (ad k, ent k))
theorem wl_get {ad : Nat → Nat} {N : Nat} {ent : Nat → va_E} {k : Nat} (h : k < N) : (wl ad N ent)[k]? = some (ad k, ent k) := by
  simp [wl, h]
theorem wl_inv {ad : Nat → Nat} {N : Nat} {ent : Nat → va_E} {k : Nat} {q : Nat × va_E} (h : (wl ad N ent)[k]? = some q) : k < N ∧ q = (ad k, ent k) := by
  have hk : k < N := by
    have := (List.getElem?_eq_some_iff.mp h).1
    simpa [wl] using this
  rw [wl_get hk] at h
  exact ⟨hk, (Option.some.inj h).symm⟩
theorem wl_set {ad : Nat → Nat} {N : Nat} {ent ent' : Nat → va_E} {k : Nat} {e : va_E} (he : ent' k = e) (ho : ∀ j, j ≠ k → ent' j = ent j) : (wl ad N ent).set k (ad k, e) = wl ad N ent' := by
  apply List.ext_getElem?
  intro j
  by_cases hj : j < N
  · by_cases e1 : k = j
    · subst e1
      rw [List.getElem?_set_self (by simpa [wl] using hj), wl_get hj, he]
    · rw [List.getElem?_set_ne e1, wl_get hj, wl_get hj, ho j (fun h => e1 h.symm)]
  · rw [List.getElem?_eq_none (by simp [wl]; omega), List.getElem?_eq_none (by simp [wl]; omega)]
theorem wl_D {A : Nat → Prop} {ad : Nat → Nat} {N : Nat} {ent : Nat → va_E} (ent' : Nat → va_E) (h : va_D A (wl ad N ent)) : va_D A (wl ad N ent') := by
  refine ⟨fun i j p q hi hj hpq => ?_, fun k q hk => ?_⟩
  · obtain ⟨h1, rfl⟩ := wl_inv hi
    obtain ⟨h2, rfl⟩ := wl_inv hj
    exact h.1 i j (ad i, ent i) (ad j, ent j) (wl_get h1) (wl_get h2) hpq
  · obtain ⟨h1, rfl⟩ := wl_inv hk
    exact h.2 k (ad k, ent k) (wl_get h1)
abbrev EN : Type := GG → St → Nat → va_E
abbrev wE (N : Nat) (ent : EN) (g : GG) (σ : St) : va_W := wl g.2.1 N (ent g σ)
def HW (N : Nat) (ent : EN) (g : GG) (A : Nat → Prop) (H0 H : Heap) (locs : List Loc) (σ : St) : Prop := va_P g.1 clsL (wE N ent g σ) H ∧ va_D A (wE N ent g σ) ∧ va_S A H0 H locs
/-- the int arrays of a layout: L says how long, 0: none such; a cell's picture is of its own part of the state -/
def Lay (N : Nat) (ent : EN) (L : Nat → Nat) : Prop := (∀ (g : GG) (σ : St) (k : Nat), L k ≠ 0 → k < N ∧ ent g σ k = .inl (g.2.2.1, L k, .inl (σ.1 k))) ∧ ∀ (g : GG) (σ τ : St) (j : Nat), σ.1 j = τ.1 j → σ.2 j = τ.2 j → ent g σ j = ent g τ j
def Aof (N : Nat) (g : GG) (sz : Nat) : Nat → Prop := fun q => (∃ k, k < N ∧ q = g.2.1 k) ∨ sz ≤ q
def PreW (N : Nat) (ent : EN) (g : GG) (sz : Nat) (av : List Value) (σ : St) : Array Value → State → Prop := va_Pc av (fun U => U.heap.size = sz ∧ va_P g.1 clsL (wE N ent g σ) U.heap ∧ KS g U ∧ va_D (fun _ => True) (wE N ent g σ))
abbrev BW (N : Nat) (ent : EN) (g : GG) : St → State → Prop := fun u t => va_P g.1 clsL (wE N ent g u) t.heap
abbrev QI (N : Nat) (ent : EN) (g : GG) (sz : Nat) (σ' : St) (r : Int32) : Array Value → State → Outcome → State → Prop := va_Qi (fun (r2 : Int32) (u : St) => r2 = r ∧ u = σ') (BW N ent g) (Aof N g sz)
abbrev QL (N : Nat) (ent : EN) (g : GG) (sz : Nat) (σ' : St) (r : Int64) : Array Value → State → Outcome → State → Prop := va_Ql (fun (r2 : Int64) (u : St) => r2 = r ∧ u = σ') (BW N ent g) (Aof N g sz)
abbrev QV (N : Nat) (ent : EN) (g : GG) (sz : Nat) (σ' : St) : Array Value → State → Outcome → State → Prop := va_Qv (fun (u : St) => u = σ') (BW N ent g) (Aof N g sz)
abbrev QR (N : Nat) (ent : EN) (g : GG) (sz : Nat) (σ' : St) (r : Nat) : Array Value → State → Outcome → State → Prop := va_Qr (fun (u : St) => u = σ') (fun u a t => a = g.2.1 r ∧ BW N ent g u t) (Aof N g sz)
/-- a contract: for every size of the heap -/
def MI (N : Nat) (ent : EN) (l : Launch) (g : GG) (y : MethodName) (ws : List Cond) (rm : Room) (av : List Value) (σ σ' : St) (r : Int32) : Prop := ∀ sz, Met l y ws rm (PreW N ent g sz av σ) (QI N ent g sz σ' r) 0 0 (Aof N g sz)
def ML (N : Nat) (ent : EN) (l : Launch) (g : GG) (y : MethodName) (ws : List Cond) (rm : Room) (av : List Value) (σ σ' : St) (r : Int64) : Prop := ∀ sz, Met l y ws rm (PreW N ent g sz av σ) (QL N ent g sz σ' r) 0 0 (Aof N g sz)
def MV (N : Nat) (ent : EN) (l : Launch) (g : GG) (y : MethodName) (ws : List Cond) (rm : Room) (av : List Value) (σ σ' : St) : Prop := ∀ sz, Met l y ws rm (PreW N ent g sz av σ) (QV N ent g sz σ') 0 0 (Aof N g sz)
def MR (N : Nat) (ent : EN) (l : Launch) (g : GG) (y : MethodName) (ws : List Cond) (rm : Room) (av : List Value) (σ σ' : St) (r : Nat) : Prop := ∀ sz, Met l y ws rm (PreW N ent g sz av σ) (QR N ent g sz σ' r) 0 0 (Aof N g sz)
theorem PreW_blind {N : Nat} {ent : EN} {g : GG} {sz : Nat} {av : List Value} {σ : St} : FrameBlind (PreW N ent g sz av σ) := fun a U f mk q => by
  obtain ⟨q0, q1, qP, qK, qD⟩ := q
  exact ⟨q0, q1, qP, va_K.moved (u := U) (U := U.calling f mk a) (Vm.Alike.refl U.vm) qK, qD⟩
def rmD (d : Nat) : Room := { frames := d, cells := 0, slots := 0, locals := 60 * d }
section XR
variable {p : Program} {l : Launch} {e : Env} {R : Room} {s : State} {m : MethodId} {args : Array Value} {below : List Frame} {meth : Method} {c : Code} {H : Heap} {locs : List Loc} {cells slots : Nat} {Q : State → Prop}
variable {cc : ByteArray} {pc nL : Nat} {ls : Array Slot} {rest : List Value} {A : Nat → Prop} {H0 : Heap} {N : Nat} {ent : EN} {L : Nat → Nat} {g : GG} {σ : St} {own : String}
theorem x_ald (hL : Lay N ent L) (C : CallFix p m c cc nL s args gtbl own) (hK : KS g s) (hs : HW N ent g A H0 H locs σ) {k : Nat} {i : Int32} (hin : inb i (L k) = true) (hdg : decode cc pc = .ok (.iaload, 1)) (kk : W p l e R s m args below meth c H locs cells slots Q (F0 m (pc + 1) ls (.int (σ.1 k i.toNatClampNeg) :: rest))) : W p l e R s m args below meth c H locs cells slots Q (F0 m pc ls (.int i :: .ref (g.2.1 k) :: rest)) := by
  have hk := hL.1 g σ k (inb_ne hin)
  exact va_iald C.1 C.2.1 hK hs.1 k 0 ((wl_get hk.1).trans (by rw [hk.2])) rfl (inb_in hin) hdg kk
theorem HW.upI (hL : Lay N ent L) (hD : va_D A (wE N ent g σ)) {k : Nat} (hk : L k ≠ 0) {f : Nat → Int32} {H1 : Heap} {locs1 : List Loc} (hP : va_P g.1 clsL ((wE N ent g σ).set k (g.2.1 k, .inl (g.2.2.1, L k, .inl f))) H1) (hS : va_S A H0 H1 locs1) {τ : St} (h1 : τ.1 k = f) (h2 : ∀ j, j ≠ k → τ.1 j = σ.1 j) (h3 : τ.2 = σ.2) : HW N ent g A H0 H1 locs1 τ := by
  have e1 : ent g τ k = .inl (g.2.2.1, L k, .inl f) := by rw [(hL.1 g τ k hk).2, h1]
  have e2 : ∀ j, j ≠ k → ent g τ j = ent g σ j := fun j hj => hL.2 g τ σ j (h2 j hj) (by rw [h3])
  refine ⟨?_, wl_D _ hD, hS⟩
  rw [wl_set e1 e2] at hP
  exact hP
theorem x_ast (hL : Lay N ent L) (C : CallFix p m c cc nL s args gtbl own) (hK : KS g s) (hs : HW N ent g A H0 H locs σ) {k : Nat} {i x : Int32} (hin : inb i (L k) = true) (hdg : decode cc pc = .ok (.iastore, 1)) (kk : ∀ (H1 : Heap) (locs1 : List Loc), HW N ent g A H0 H1 locs1 (su σ k i.toNatClampNeg x) → W p l e R s m args below meth c H1 locs1 cells slots Q (F0 m (pc + 1) ls rest)) : W p l e R s m args below meth c H locs cells slots Q (F0 m pc ls (.int x :: .int i :: .ref (g.2.1 k) :: rest)) := by
  have hk := hL.1 g σ k (inb_ne hin)
  refine va_iast C.1 C.2.1 hK hs.1 hs.2.1 hs.2.2 k 0 ((wl_get hk.1).trans (by rw [hk.2])) rfl (inb_in hin) hdg (fun H1 locs1 hP _ hS => kk H1 locs1 ?_)
  exact HW.upI hL hs.2.1 (inb_ne hin) hP hS su_s (fun j hj => su_o hj) rfl
theorem x_len (hL : Lay N ent L) (C : CallFix p m c cc nL s args gtbl own) (hK : KS g s) (hs : HW N ent g A H0 H locs σ) {k : Nat} (hk : L k ≠ 0) (hdg : decode cc pc = .ok (.arraylength, 1)) (kk : W p l e R s m args below meth c H locs cells slots Q (F0 m (pc + 1) ls (.int (nI (L k)) :: rest))) : W p l e R s m args below meth c H locs cells slots Q (F0 m pc ls (.ref (g.2.1 k) :: rest)) := by
  have hk := hL.1 g σ k hk
  exact va_alen (x := (L k, .inl (σ.1 k))) C.1 C.2.1 hK hs.1 k 0 ((wl_get hk.1).trans (by rw [hk.2])) rfl rfl hdg kk
theorem x_copy (hL : Lay N ent L) (C : CallFix p m c cc nL s args gtbl own) (hls : ls.size = nL) (hK : KS g s) (hs : HW N ent g A H0 H locs σ) {index : Nat} (hlink : Cond.methodLink own index arraycopyName ∈ gtbl) (hnat : Cond.native arraycopyName ∈ gtbl) (hstat : Cond.static arraycopyName ∈ gtbl) (hini : Cond.initialized "java/lang/System" ∈ gtbl) {k k2 : Nat} {sp dp n : Int32} (hin : arrOk L k k2 sp dp n = true) (hframes : 1 ≤ R.frames) (hlocals : (rest.map fun v => v.category).sum + (nativeFrameWords "java/lang/System" "arraycopy" 5 + 11) ≤ R.locals) (hdg : decode cc pc = .ok (.invokestatic index, 3)) (kk : ∀ (H1 : Heap) (locs1 : List Loc), HW N ent g A H0 H1 locs1 (sc σ k2 (va_cpy (σ.1 k) (σ.1 k2) sp.toNatClampNeg dp.toNatClampNeg n.toNatClampNeg)) → W p l e R s m args below meth c H1 locs1 cells slots Q (F0 m (pc + 3) ls rest)) : W p l e R s m args below meth c H locs cells slots Q (F0 m pc ls (.int n :: .int dp :: .ref (g.2.1 k2) :: .int sp :: .ref (g.2.1 k) :: rest)) := by
  obtain ⟨h1, h2, h3, h4, h5, h6, h7⟩ := arrOk_e hin
  have hk := hL.1 g σ k h4
  have hk2 := hL.1 g σ k2 h5
  refine va_copyi C.1 C.2.1 (C.2.2.1.trans hls.symm) C.2.2.2.1 (C.2.2.2.2 _ hlink) (C.2.2.2.2 _ hnat) (C.2.2.2.2 _ hstat) (C.2.2.2.2 _ hini) hK hs.1 hs.2.1 hs.2.2 k k2 0 0 ((wl_get hk.1).trans (by rw [hk.2])) ((wl_get hk2.1).trans (by rw [hk2.2])) rfl rfl rfl h1 h2 h3 h6 h7 (fun _ _ => rfl) hframes hlocals hdg (fun H1 locs1 hP _ hS => kk H1 locs1 ?_)
  exact HW.upI hL hs.2.1 h5 hP hS sc_s (fun j hj => sc_o hj) rfl
theorem HW.behind {H1 : Heap} {locs1 : List Loc} {σ' : St} (hs : HW N ent g A H0 H locs σ) (hP : va_P g.1 clsL (wE N ent g σ') H1) (hS : va_S A H0 H1 locs1) : HW N ent g A H0 H1 locs1 σ' := ⟨hP, wl_D _ hs.2.1, hS⟩
theorem HW.free (hs : HW N ent g A H0 H locs σ) (hA : ∀ q, H0.size ≤ q → A q) : ∀ q, Aof N g H.size q → A q := fun q hq => by
  rcases hq with ⟨k, hk, rfl⟩ | h
  · exact hs.2.1.2 k _ (wl_get hk)
  · exact hA q (Nat.le_trans hs.2.2.1 h)
theorem HW.pre (hs : HW N ent g A H0 H locs σ) (hK : KS g s) {av : List Value} : ∀ U : State, U.heap = H → s.WarmedH U.vm → PreW N ent g H.size av σ av.toArray U := fun U hU hW => ⟨rfl, by rw [hU], by rw [hU]; exact hs.1, va_K.moved hW.alike hK, hs.2.1.weaken (fun _ _ _ _ => trivial)⟩
theorem HW.recv (hs : HW N ent g A H0 H locs σ) (hK : KS g s) (k : Nat) (hk : k < N) {ci : Nat} {fs : List Value} {q : vw_C} (he : ent g σ k = .inr (ci, fs)) (hc : clsL[ci]? = some q) : ∃ cell : Cell, H[g.2.1 k]? = some cell ∧ cell.vm.isStatics = false ∧ s.vm.findClass q.1 = some cell.cls := va_recv hK hs.1 hc ((wl_get hk).trans (by rw [he]))
variable {y : MethodName} {bytes : ByteArray} {maxL index n d : Nat} {ret : Option FieldType} {As st : List Value} {σ' : St} {D : String}
/-- calls of a contract: virtual, static -/
theorem cw_V (n : Nat) (C : CallFix p m c cc nL s args gtbl own) (hcode : Cond.code y bytes maxL ret ∈ gtbl) (hl : Cond.methodLink own index y ∈ gtbl) (hi : Cond.instanceMethod y ∈ gtbl) (hse : Cond.selects D y y ∈ gtbl) (hini : Cond.initialized D ∈ gtbl) (hd : y.cls = D ∧ y.cls ≠ "java/lang/invoke/MethodHandle" ∧ y.cls ≠ "java/lang/invoke/VarHandle" ∧ (parseMethodDescriptor y.desc).map (fun d => d.parameters.length) = some n) (hR : d + 1 ≤ R.frames ∧ 8 + (maxL + 11) + 60 * d ≤ R.locals) : CallW R s args own D index y bytes maxL ret (Cond.code y bytes maxL ret :: gtbl) (rmD d) 0 0 n :=
  cwV n C.2.2.2.2 (gtbl_gc hl (gtbl_gc hi (gtbl_gc hse (gtbl_gc hini (gtbl_gi hcode))))) rfl rfl rfl hd hR
theorem cw_S (n : Nat) (C : CallFix p m c cc nL s args gtbl own) (hcode : Cond.code y bytes maxL ret ∈ gtbl) (hl : Cond.methodLink own index y ∈ gtbl) (hi : Cond.static y ∈ gtbl) (hini : Cond.initialized y.cls ∈ gtbl) (hd : y.cls ≠ "java/lang/invoke/MethodHandle" ∧ y.cls ≠ "java/lang/invoke/VarHandle" ∧ (parseMethodDescriptor y.desc).map (fun d => d.parameters.length) = some n) (hR : d + 1 ≤ R.frames ∧ 8 + (maxL + 11) + 60 * d ≤ R.locals) : CallB R s args own index y bytes maxL ret (Cond.code y bytes maxL ret :: gtbl) (rmD d) 0 0 n ∧ (Cond.static y).before args s = true :=
  va_cwS n C.2.2.2.2 (gtbl_gc hl (gtbl_gc hi (gtbl_gc hini (gtbl_gi hcode)))) rfl rfl rfl hd hR
theorem x_civ {r : Int32} {k : Nat} (C : CallFix p m c cc nL s args gtbl own) (hls : ls.size = nL) (hK : KS g s) (hs : HW N ent g A H0 H locs σ) (hA : ∀ q, H0.size ≤ q → A q) (hf : cells + 0 ≤ R.cells ∧ slots + 0 ≤ R.slots) (hM : MI N ent l g y (Cond.code y bytes maxL ret :: gtbl) (rmD d) (.ref (g.2.1 k) :: As) σ σ' r) (cw : CallW R s args own D index y bytes maxL ret (Cond.code y bytes maxL ret :: gtbl) (rmD d) 0 0 n) (hv : ∃ cell : Cell, H[g.2.1 k]? = some cell ∧ cell.vm.isStatics = false ∧ s.vm.findClass D = some cell.cls) (hn : As.length = n) (hst : st = As.reverse ++ .ref (g.2.1 k) :: rest) (hW : (rest.map fun v => v.category).sum ≤ 8) (hdg : decode cc pc = .ok (.invokevirtual index, 3)) (kk : ∀ (H1 : Heap) (locs1 : List Loc), HW N ent g A H0 H1 locs1 σ' → W p l e R s m args below meth c H1 locs1 cells slots Q (F0 m (pc + 3) ls (.int r :: rest))) : W p l e R s m args below meth c H locs cells slots Q (F0 m pc ls st) :=
  va_calli (va_runV C (hM H.size) cw ⟨PreW_blind, hv, hs.pre hK⟩ rfl hn hls hst (lv_room hW) hdg hf) hs.2.2 (fun q _ h => hs.free hA q h) (hs.free hA) (fun r2 u t H1 locs1 ht hvm hw hB _ _ hS => by
    obtain ⟨rfl, rfl⟩ := hw
    rw [BW, ht] at hB
    exact kk H1 locs1 (hs.behind hB hS))
theorem x_clv {r : Int64} {k : Nat} (C : CallFix p m c cc nL s args gtbl own) (hls : ls.size = nL) (hK : KS g s) (hs : HW N ent g A H0 H locs σ) (hA : ∀ q, H0.size ≤ q → A q) (hf : cells + 0 ≤ R.cells ∧ slots + 0 ≤ R.slots) (hM : ML N ent l g y (Cond.code y bytes maxL ret :: gtbl) (rmD d) (.ref (g.2.1 k) :: As) σ σ' r) (cw : CallW R s args own D index y bytes maxL ret (Cond.code y bytes maxL ret :: gtbl) (rmD d) 0 0 n) (hv : ∃ cell : Cell, H[g.2.1 k]? = some cell ∧ cell.vm.isStatics = false ∧ s.vm.findClass D = some cell.cls) (hn : As.length = n) (hst : st = As.reverse ++ .ref (g.2.1 k) :: rest) (hW : (rest.map fun v => v.category).sum ≤ 8) (hdg : decode cc pc = .ok (.invokevirtual index, 3)) (kk : ∀ (H1 : Heap) (locs1 : List Loc), HW N ent g A H0 H1 locs1 σ' → W p l e R s m args below meth c H1 locs1 cells slots Q (F0 m (pc + 3) ls (.long r :: rest))) : W p l e R s m args below meth c H locs cells slots Q (F0 m pc ls st) :=
  va_calll (va_runV C (hM H.size) cw ⟨PreW_blind, hv, hs.pre hK⟩ rfl hn hls hst (lv_room hW) hdg hf) hs.2.2 (fun q _ h => hs.free hA q h) (hs.free hA) (fun r2 u t H1 locs1 ht hvm hw hB _ _ hS => by
    obtain ⟨rfl, rfl⟩ := hw
    rw [BW, ht] at hB
    exact kk H1 locs1 (hs.behind hB hS))
theorem x_cvv {k : Nat} (C : CallFix p m c cc nL s args gtbl own) (hls : ls.size = nL) (hK : KS g s) (hs : HW N ent g A H0 H locs σ) (hA : ∀ q, H0.size ≤ q → A q) (hf : cells + 0 ≤ R.cells ∧ slots + 0 ≤ R.slots) (hM : MV N ent l g y (Cond.code y bytes maxL ret :: gtbl) (rmD d) (.ref (g.2.1 k) :: As) σ σ') (cw : CallW R s args own D index y bytes maxL ret (Cond.code y bytes maxL ret :: gtbl) (rmD d) 0 0 n) (hv : ∃ cell : Cell, H[g.2.1 k]? = some cell ∧ cell.vm.isStatics = false ∧ s.vm.findClass D = some cell.cls) (hn : As.length = n) (hst : st = As.reverse ++ .ref (g.2.1 k) :: rest) (hW : (rest.map fun v => v.category).sum ≤ 8) (hdg : decode cc pc = .ok (.invokevirtual index, 3)) (kk : ∀ (H1 : Heap) (locs1 : List Loc), HW N ent g A H0 H1 locs1 σ' → W p l e R s m args below meth c H1 locs1 cells slots Q (F0 m (pc + 3) ls rest)) : W p l e R s m args below meth c H locs cells slots Q (F0 m pc ls st) :=
  va_callv (va_runV C (hM H.size) cw ⟨PreW_blind, hv, hs.pre hK⟩ rfl hn hls hst (lv_room hW) hdg hf) hs.2.2 (fun q _ h => hs.free hA q h) (hs.free hA) (fun u t H1 locs1 ht hvm hw hB _ _ hS => by
    obtain rfl := hw
    rw [BW, ht] at hB
    exact kk H1 locs1 (hs.behind hB hS))
theorem x_crv {r : Nat} {k : Nat} (C : CallFix p m c cc nL s args gtbl own) (hls : ls.size = nL) (hK : KS g s) (hs : HW N ent g A H0 H locs σ) (hA : ∀ q, H0.size ≤ q → A q) (hf : cells + 0 ≤ R.cells ∧ slots + 0 ≤ R.slots) (hM : MR N ent l g y (Cond.code y bytes maxL ret :: gtbl) (rmD d) (.ref (g.2.1 k) :: As) σ σ' r) (cw : CallW R s args own D index y bytes maxL ret (Cond.code y bytes maxL ret :: gtbl) (rmD d) 0 0 n) (hv : ∃ cell : Cell, H[g.2.1 k]? = some cell ∧ cell.vm.isStatics = false ∧ s.vm.findClass D = some cell.cls) (hn : As.length = n) (hst : st = As.reverse ++ .ref (g.2.1 k) :: rest) (hW : (rest.map fun v => v.category).sum ≤ 8) (hdg : decode cc pc = .ok (.invokevirtual index, 3)) (kk : ∀ (H1 : Heap) (locs1 : List Loc), HW N ent g A H0 H1 locs1 σ' → W p l e R s m args below meth c H1 locs1 cells slots Q (F0 m (pc + 3) ls (.ref (g.2.1 r) :: rest))) : W p l e R s m args below meth c H locs cells slots Q (F0 m pc ls st) :=
  va_callr (va_runV C (hM H.size) cw ⟨PreW_blind, hv, hs.pre hK⟩ rfl hn hls hst (lv_room hW) hdg hf) hs.2.2 (fun q _ h => hs.free hA q h) (hs.free hA) (fun u a t H1 locs1 ht hvm hw hB _ _ hS => by
    obtain rfl := hw
    obtain ⟨rfl, hB⟩ := hB
    rw [BW, ht] at hB
    exact kk H1 locs1 (hs.behind hB hS))
theorem x_cis {r : Int32} (C : CallFix p m c cc nL s args gtbl own) (hls : ls.size = nL) (hK : KS g s) (hs : HW N ent g A H0 H locs σ) (hA : ∀ q, H0.size ≤ q → A q) (hf : cells + 0 ≤ R.cells ∧ slots + 0 ≤ R.slots) (hM : MI N ent l g y (Cond.code y bytes maxL ret :: gtbl) (rmD d) As σ σ' r) (cw : CallB R s args own index y bytes maxL ret (Cond.code y bytes maxL ret :: gtbl) (rmD d) 0 0 n ∧ (Cond.static y).before args s = true) (hn : As.length = n) (hst : st = As.reverse ++ rest) (hW : (rest.map fun v => v.category).sum ≤ 8) (hdg : decode cc pc = .ok (.invokestatic index, 3)) (kk : ∀ (H1 : Heap) (locs1 : List Loc), HW N ent g A H0 H1 locs1 σ' → W p l e R s m args below meth c H1 locs1 cells slots Q (F0 m (pc + 3) ls (.int r :: rest))) : W p l e R s m args below meth c H locs cells slots Q (F0 m pc ls st) :=
  va_calli (va_runS C (hM H.size) cw ⟨PreW_blind, hs.pre hK⟩ rfl hn hls hst (lv_room hW) hdg hf) hs.2.2 (fun q _ h => hs.free hA q h) (hs.free hA) (fun r2 u t H1 locs1 ht hvm hw hB _ _ hS => by
    obtain ⟨rfl, rfl⟩ := hw
    rw [BW, ht] at hB
    exact kk H1 locs1 (hs.behind hB hS))
theorem x_cls {r : Int64} (C : CallFix p m c cc nL s args gtbl own) (hls : ls.size = nL) (hK : KS g s) (hs : HW N ent g A H0 H locs σ) (hA : ∀ q, H0.size ≤ q → A q) (hf : cells + 0 ≤ R.cells ∧ slots + 0 ≤ R.slots) (hM : ML N ent l g y (Cond.code y bytes maxL ret :: gtbl) (rmD d) As σ σ' r) (cw : CallB R s args own index y bytes maxL ret (Cond.code y bytes maxL ret :: gtbl) (rmD d) 0 0 n ∧ (Cond.static y).before args s = true) (hn : As.length = n) (hst : st = As.reverse ++ rest) (hW : (rest.map fun v => v.category).sum ≤ 8) (hdg : decode cc pc = .ok (.invokestatic index, 3)) (kk : ∀ (H1 : Heap) (locs1 : List Loc), HW N ent g A H0 H1 locs1 σ' → W p l e R s m args below meth c H1 locs1 cells slots Q (F0 m (pc + 3) ls (.long r :: rest))) : W p l e R s m args below meth c H locs cells slots Q (F0 m pc ls st) :=
  va_calll (va_runS C (hM H.size) cw ⟨PreW_blind, hs.pre hK⟩ rfl hn hls hst (lv_room hW) hdg hf) hs.2.2 (fun q _ h => hs.free hA q h) (hs.free hA) (fun r2 u t H1 locs1 ht hvm hw hB _ _ hS => by
    obtain ⟨rfl, rfl⟩ := hw
    rw [BW, ht] at hB
    exact kk H1 locs1 (hs.behind hB hS))
theorem x_cvs (C : CallFix p m c cc nL s args gtbl own) (hls : ls.size = nL) (hK : KS g s) (hs : HW N ent g A H0 H locs σ) (hA : ∀ q, H0.size ≤ q → A q) (hf : cells + 0 ≤ R.cells ∧ slots + 0 ≤ R.slots) (hM : MV N ent l g y (Cond.code y bytes maxL ret :: gtbl) (rmD d) As σ σ') (cw : CallB R s args own index y bytes maxL ret (Cond.code y bytes maxL ret :: gtbl) (rmD d) 0 0 n ∧ (Cond.static y).before args s = true) (hn : As.length = n) (hst : st = As.reverse ++ rest) (hW : (rest.map fun v => v.category).sum ≤ 8) (hdg : decode cc pc = .ok (.invokestatic index, 3)) (kk : ∀ (H1 : Heap) (locs1 : List Loc), HW N ent g A H0 H1 locs1 σ' → W p l e R s m args below meth c H1 locs1 cells slots Q (F0 m (pc + 3) ls rest)) : W p l e R s m args below meth c H locs cells slots Q (F0 m pc ls st) :=
  va_callv (va_runS C (hM H.size) cw ⟨PreW_blind, hs.pre hK⟩ rfl hn hls hst (lv_room hW) hdg hf) hs.2.2 (fun q _ h => hs.free hA q h) (hs.free hA) (fun u t H1 locs1 ht hvm hw hB _ _ hS => by
    obtain rfl := hw
    rw [BW, ht] at hB
    exact kk H1 locs1 (hs.behind hB hS))
/-- the ends -/
theorem x_iret {v r : Int32} (C : CallFix p m c cc nL s args gtbl own) (hr : meth.sig.returnType = some .int) (hlk : meth.locks = false) (hs : HW N ent g (Aof N g s.heap.size) s.heap H locs σ) (hE : some (σ, v) = some (σ', r)) (hdg : decode cc pc = .ok (.ireturn, 1)) : W p l e R s m args below meth c H locs cells slots (MQ below (QI N ent g s.heap.size σ' r) args s cells slots (Aof N g s.heap.size)) (F0 m pc ls [.int v]) := by
  obtain ⟨rfl, rfl⟩ := Prod.mk.inj (Option.some.inj hE)
  exact W.iret C.1 C.2.1 hr (fun t ht _ => ⟨⟨_, _, rfl, ⟨rfl, rfl⟩, by rw [BW, ht]; exact hs.1⟩, hs.2.2.F ht⟩) hs.2.2.2.2 hdg hlk
theorem x_zret {v r : Int32} (C : CallFix p m c cc nL s args gtbl own) (hr : meth.sig.returnType = some .boolean) (hlk : meth.locks = false) (hs : HW N ent g (Aof N g s.heap.size) s.heap H locs σ) (hn : isB v = true) (hE : some (σ, v) = some (σ', r)) (hdg : decode cc pc = .ok (.ireturn, 1)) : W p l e R s m args below meth c H locs cells slots (MQ below (QI N ent g s.heap.size σ' r) args s cells slots (Aof N g s.heap.size)) (F0 m pc ls [.int v]) := by
  obtain ⟨rfl, rfl⟩ := Prod.mk.inj (Option.some.inj hE)
  exact W.zret C.1 C.2.1 hr (isB_n hn) (fun t ht _ => ⟨⟨_, _, rfl, ⟨rfl, rfl⟩, by rw [BW, ht]; exact hs.1⟩, hs.2.2.F ht⟩) hs.2.2.2.2 hdg hlk
theorem x_lret {v r : Int64} (C : CallFix p m c cc nL s args gtbl own) (hr : meth.sig.returnType = some .long) (hlk : meth.locks = false) (hs : HW N ent g (Aof N g s.heap.size) s.heap H locs σ) (hE : some (σ, v) = some (σ', r)) (hdg : decode cc pc = .ok (.lreturn, 1)) : W p l e R s m args below meth c H locs cells slots (MQ below (QL N ent g s.heap.size σ' r) args s cells slots (Aof N g s.heap.size)) (F0 m pc ls [.long v]) := by
  obtain ⟨rfl, rfl⟩ := Prod.mk.inj (Option.some.inj hE)
  exact W.lret C.1 C.2.1 hr (fun t ht _ => ⟨⟨_, _, rfl, ⟨rfl, rfl⟩, by rw [BW, ht]; exact hs.1⟩, hs.2.2.F ht⟩) hs.2.2.2.2 hdg hlk
theorem x_vret {r : Unit} (C : CallFix p m c cc nL s args gtbl own) (hr : meth.sig.returnType = none) (hlk : meth.locks = false) (hs : HW N ent g (Aof N g s.heap.size) s.heap H locs σ) (hE : some (σ, ()) = some (σ', r)) (hdg : decode cc pc = .ok (.return_, 1)) : W p l e R s m args below meth c H locs cells slots (MQ below (QV N ent g s.heap.size σ') args s cells slots (Aof N g s.heap.size)) (F0 m pc ls []) := by
  obtain ⟨rfl, -⟩ := Prod.mk.inj (Option.some.inj hE)
  exact W.vret C.1 C.2.1 hr (fun t ht _ => ⟨⟨_, rfl, rfl, by rw [BW, ht]; exact hs.1⟩, hs.2.2.F ht⟩) hs.2.2.2.2 hdg hlk
theorem x_rret {v r : Nat} {ty : FieldType} (C : CallFix p m c cc nL s args gtbl own) (hr : meth.sig.returnType = some (.array ty)) (hlk : meth.locks = false) (hs : HW N ent g (Aof N g s.heap.size) s.heap H locs σ) (hE : some (σ, v) = some (σ', r)) (hdg : decode cc pc = .ok (.areturn, 1)) : W p l e R s m args below meth c H locs cells slots (MQ below (QR N ent g s.heap.size σ' r) args s cells slots (Aof N g s.heap.size)) (F0 m pc ls [.ref (g.2.1 v)]) := by
  obtain ⟨rfl, rfl⟩ := Prod.mk.inj (Option.some.inj hE)
  exact W.aret C.1 C.2.1 hr (Or.inr ⟨_, rfl⟩) (Or.inr ⟨_, rfl⟩) (fun t ht _ => ⟨⟨_, _, rfl, rfl, rfl, by rw [BW, ht]; exact hs.1⟩, hs.2.2.F ht⟩) hs.2.2.2.2 hdg hlk
end XR
/-- a contract out of a walk -/
theorem m_of {N : Nat} {ent : EN} {l : Launch} {g : GG} {y : MethodName} {bytes : ByteArray} {maxL d sz : Nat} {ret : Option FieldType} {av : List Value} {σ : St} {own : String} {Qc : Array Value → State → Outcome → State → Prop} {lv : List (Nat × Value)} (hy : plainName y.cls = true) (ho : y.cls = own) (hlen : (lg_sl av).length ≤ maxL) (hlv : lv_args 0 av = lv)
    (k : ∀ (p : Program) (e : Env) (s : State) (m : MethodId) (below : List Frame) (meth : Method) (c : Code) (ls : Array Slot), s.heap.size = sz → CallFix p m c bytes maxL s av.toArray gtbl own → meth.sig.returnType = ret → meth.locks = false → KS g s → HW N ent g (Aof N g s.heap.size) s.heap s.heap [] σ → (∀ q, s.heap.size ≤ q → Aof N g s.heap.size q) → lv_has ls maxL lv → W p l e (rmD d) s m av.toArray below meth c s.heap [] 0 0 (MQ below Qc av.toArray s 0 0 (Aof N g s.heap.size)) (F0 m 0 ls [])) : Met l y (Cond.code y bytes maxL ret :: gtbl) (rmD d) (PreW N ent g sz av σ) Qc 0 0 (Aof N g sz) := by
  refine Met.ofW (cc := bytes) (maxL := maxL) (ret := ret) hy rfl ?_
  intro p e s m args below meth c s₁ B hml hv
  obtain ⟨rfl, hsz, hP, hK, hD0⟩ := hv
  have hts := atoms_spec (ws := Cond.code y bytes maxL ret :: gtbl) B.pre
  have hown : s.vm.findClass own = some m.cls := by rw [← ho]; exact findClass_of_methodNamed B.named
  have hl := lv_entry av (n := maxL) hlen
  rw [hlv] at hl
  rw [lg_entry_eq]
  generalize (lg_sl av ++ List.replicate (maxL - (lg_sl av).length) Slot.unset).toArray = ls at hl ⊢
  subst hsz
  refine k p e s m below meth c ls rfl ⟨B.exec, B.bytes, hml, hown, fun w hw => hts w (List.mem_cons_of_mem _ hw)⟩ B.returns B.notSynchronized hK ⟨hP, ⟨hD0.1, fun k q hk => ?_⟩, va_S.rf⟩ (fun q h => Or.inr h) hl
  obtain ⟨h1, rfl⟩ := wl_inv hk
  exact Or.inl ⟨k, h1, rfl⟩
