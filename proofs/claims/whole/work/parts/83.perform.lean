/-! deeds done again: the component -/
theorem iloop {β : Type} (Lp : Nat → St → Int32 → (St → Int32 → Option β) → Option β) (e : Nat) (I : Nat → St → Prop) (k : St → Int32 → Option β) (hend : ∀ n σ, I e σ → Lp (n + 1) σ (nI e) k = k σ (nI e)) (hstep : ∀ n σ i, i < e → I i σ → ∃ σ', I (i + 1) σ' ∧ Lp (n + 1) σ (nI i) k = Lp n σ' (nI (i + 1)) k) : ∀ (m i fuel : Nat) (σ : St), i + m = e → m < fuel → I i σ → ∃ σ', I e σ' ∧ Lp fuel σ (nI i) k = k σ' (nI e) := by
  intro m
  induction m with
  | zero =>
    intro i fuel σ hi hf h
    match fuel, hf with
    | f + 1, _ =>
      rw [show i = e by omega] at h ⊢
      exact ⟨σ, h, hend f σ h⟩
  | succ m ih =>
    intro i fuel σ hi hf h
    match fuel, hf with
    | f + 1, hf =>
      obtain ⟨σ', h1, h2⟩ := hstep f σ i (by omega) h
      rw [h2]
      exact ih (i + 1) f σ' (by omega) (by omega) h1
def eqT (τ τ' : St) : Prop := (∀ k, k ≠ 25 → k ≠ 33 → k ≠ 34 → τ'.1 k = τ.1 k) ∧ τ'.2 = τ.2
theorem eqT.plan {τ τ' : St} (h : eqT τ τ') {P : Pl} (hC : PlC τ P) : PlC τ' P := by
  unfold PlC
  rw [h.1 26 (by omega) (by omega) (by omega), h.1 31 (by omega) (by omega) (by omega), h.1 32 (by omega) (by omega) (by omega), h.1 29 (by omega) (by omega) (by omega), h.1 30 (by omega) (by omega) (by omega), h.1 28 (by omega) (by omega) (by omega), h.1 27 (by omega) (by omega) (by omega)]
  exact hC
theorem eqT.trans {a b c : St} (h : eqT a b) (g : eqT b c) : eqT a c := ⟨fun k x y z => (g.1 k x y z).trans (h.1 k x y z), g.2.trans h.2⟩
theorem eqT.rf (a : St) : eqT a a := ⟨fun _ _ _ _ => rfl, rfl⟩
theorem eqT.w {τ : St} {k i : Nat} {v : Int32} (h : k = 25 ∨ k = 33 ∨ k = 34) : eqT τ (su τ k i v) := ⟨fun j a b c => su_o (by omega), rfl⟩
theorem eqT.w' {τ ρ : St} (g : eqT τ ρ) {k i : Nat} {v : Int32} (h : k = 25 ∨ k = 33 ∨ k = 34) : eqT τ (su ρ k i v) := g.trans (eqT.w h)
theorem monthC {τ : St} {P : Pl} {t : Tw} (hP : PlanOk P) (hC : PlC τ P) (ht : TwOk P t) (tC : TwC τ P t) : ∃ τ', fX9_passMonth τ = some (τ', ()) ∧ eqT τ τ' ∧ TwC τ' P (monthT P t) := by
  have h6 := hP.1
  have t0 := ht.1
  unfold fX9_passMonth
  rw [pt_s, tC.1, L_1, nI_add, L_0]
  refine Exists.elim (iloop (fun n σ i k2 => fX9_passMonth_L12 n σ i (fun σ i => k2 σ i)) 48 (fun i ρ => eqT τ ρ ∧ ρ.1 25 3 = nI (t 0 + 1) ∧ (∀ h, h < pH P → ρ.1 33 h = nI (t (1 + h))) ∧ ∀ s, s < 48 → ρ.1 34 s = if s < i then nI (if t (7 + s) ≤ t 0 + 1 then 0 else t (7 + s)) else nI (t (7 + s))) (fun σ8 _ => fX9_passMonth_L49 10000 σ8 (nI 0) (fun σ16 _ => some (σ16, ()))) (fun n σ h => ?_) (fun n ρ i hi h => ?_) 48 0 10000 (su τ 25 3 (nI (t 0 + 1))) (by omega) (by omega) ?_) (fun ρ hh0 => ?_)
  · rw [fX9_passMonth_L12, LCv_34, if_pos (nI_le (by omega) (by omega))]
  · obtain ⟨q1, q2, q3, q4⟩ := h
    have e := endLe ht (h := i / 8) (c := i % 8) (by omega) (by omega)
    rw [show 7 + 8 * (i / 8) + i % 8 = 7 + i by omega] at e
    by_cases z : t (7 + i) ≤ t 0 + 1
    · refine ⟨su ρ 34 i (nI 0), ⟨q1.w' (Or.inr (Or.inr rfl)), (congrFun (su_o (by omega)) 3).trans q2, fun h hh => (congrFun (su_o (by omega)) h).trans (q3 h hh), fun s hs => ?_⟩, ?_⟩
      · rw [su_11]
        by_cases e : s = i
        · rw [if_pos ⟨rfl, e⟩, if_pos (by omega), e, if_pos z]
        · rw [if_neg (fun q => e q.2), q4 s hs]
          by_cases e2 : s < i
          · rw [if_pos e2, if_pos (show s < i + 1 by omega)]
          · rw [if_neg e2, if_neg (by omega)]
      · rw [fX9_passMonth_L12, LCv_34, if_neg (nI_ge hi (by omega)), rdC (show i < LC 34 by show i < 48; omega), jn_s, q2, q4 i hi, if_neg (show ¬ i < i by omega), if_neg (nI_nlt z (by omega)), L_0, wrC (show i < LC 34 by show i < 48; omega), nI_1]
    · refine ⟨ρ, ⟨q1, q2, q3, fun s hs => ?_⟩, ?_⟩
      · rw [q4 s hs]
        by_cases e2 : s < i
        · rw [if_pos e2, if_pos (show s < i + 1 by omega)]
        · rw [if_neg e2]
          by_cases e3 : s = i
          · rw [if_pos (by omega), e3, if_neg z]
          · rw [if_neg (by omega)]
      · rw [fX9_passMonth_L12, LCv_34, if_neg (nI_ge hi (by omega)), rdC (show i < LC 34 by show i < 48; omega), jn_s, q2, q4 i hi, if_neg (show ¬ i < i by omega), if_pos (nI_lt (by omega) (by omega)), nI_1]
  · exact ⟨eqT.w (Or.inl rfl), by rw [su_11, if_pos ⟨rfl, rfl⟩], fun h hh => (congrFun (su_o (by omega)) h).trans (tC.2.1 h hh), fun s hs => by rw [if_neg (by omega)]; exact (congrFun (su_o (by omega)) s).trans (tC.2.2 s hs)⟩
  · obtain ⟨⟨i1, i2, i3, i4⟩, e1⟩ := hh0
    refine Exists.elim (iloop (fun n σ i k2 => fX9_passMonth_L49 n σ i (fun σ i => k2 σ i)) (pH P) (fun i ρ => eqT τ ρ ∧ ρ.1 25 3 = nI (t 0 + 1) ∧ (∀ h, h < pH P → ρ.1 33 h = if h < i then nI (nxt (kd P h) (ic P h) (t (1 + h))) else nI (t (1 + h))) ∧ ∀ s, s < 48 → ρ.1 34 s = nI (if t (7 + s) ≤ t 0 + 1 then 0 else t (7 + s))) (fun σ16 _ => some (σ16, ())) (fun n σ h => ?_) (fun n ρ i hi h => ?_) (pH P) 0 10000 ρ (by omega) (by omega) ⟨i1, i2, fun h hh => by rw [if_neg (by omega)]; exact i3 h hh, fun s hs => by rw [i4 s hs, if_pos hs]⟩) (fun ρ2 hh => ?_)
    · rw [fX9_passMonth_L49, (h.1.plan hC).1, if_pos (nI_le (by omega) (by omega))]
    · obtain ⟨q1, q2, q3, q4⟩ := h
      have hu := ht.2.1 i hi
      refine ⟨su ρ 33 i (nI (nxt (kd P i) (ic P i) (t (1 + i)))), ⟨q1.w' (Or.inr (Or.inl rfl)), (congrFun (su_o (by omega)) 3).trans q2, fun h hh => ?_, fun s hs => (congrFun (su_o (by omega)) s).trans (q4 s hs)⟩, ?_⟩
      · rw [su_11]
        by_cases e : h = i
        · rw [if_pos ⟨rfl, e⟩, if_pos (by omega), e]
        · rw [if_neg (fun q => e q.2), q3 h hh]
          by_cases e2 : h < i
          · rw [if_pos e2, if_pos (by omega)]
          · rw [if_neg e2, if_neg (by omega)]
      · rw [fX9_passMonth_L49, (q1.plan hC).1, if_neg (nI_ge hi (by omega)), rdC (show i < LC 33 by show i < 6; omega), q3 i hi, if_neg (by omega), purseC hP (q1.plan hC) hi hu, cl_s, wrC (show i < LC 33 by show i < 6; omega), nI_1]
    · obtain ⟨⟨j1, j2, j3, j4⟩, e2⟩ := hh
      refine ⟨ρ2, ?_, j1, j2, fun h hh => ?_, fun s hs => ?_⟩
      · rw [show (fX9_passMonth_L12 10000 (su τ 25 3 (nI (t 0 + 1))) (nI 0) fun σ8 v9 => fX9_passMonth_L49 10000 σ8 (nI 0) fun σ16 v17 => some (σ16, ())) = _ from e1]
        exact e2
      · rw [j3 h hh, if_pos hh]
        unfold monthT
        rw [if_neg (by omega), if_pos (by omega), if_pos (by omega), Nat.add_sub_cancel_left]
      · have e5 : monthT P t (7 + s) = if t (7 + s) ≤ t 0 + 1 then 0 else t (7 + s) := by
          unfold monthT
          rw [if_neg (by omega), if_neg (by omega)]
        rw [j4 s hs, e5]
theorem buyC {τ : St} {P : Pl} {t : Tw} (hP : PlanOk P) (hC : PlC τ P) (ht : TwOk P t) (tC : TwC τ P t) {h c : Nat} (hh : h < pH P) (hc : c < pC P) (hp : pay (kd P h) (pr P c) ≤ t (1 + h)) : ∃ τ', fX9_acquire τ (nI h) (nI c) = some (τ', ()) ∧ eqT τ τ' ∧ TwC τ' P (buyT P t h c) := by
  have h6 := hP.1
  have h8 := hP.2.1
  have hu := ht.2.1 h hh
  unfold fX9_acquire fX9_slot
  have e1 : eqT τ (su τ 33 h (nI (t (1 + h)) - nI (pay (kd P h) (pr P c)))) := eqT.w (Or.inr (Or.inl rfl))
  rw [rdC (show h < LC 33 by show h < 6; omega), tC.2.1 h hh, paysC hP hC hh hc, cl_s, wrC (show h < LC 33 by show h < 6; omega), cl_s, holdsC hP (e1.plan hC) hh hc, cl_s, L_8, pk_mul, nI_add, wrC (show h * 8 + c < LC 34 by show _ < 48; omega), pk_sub hp, show (su τ 33 h (nI (t (1 + h) - pay (kd P h) (pr P c)))).1 25 3 = nI (t 0) from (congrFun (su_o (by omega)) 3).trans tC.1, nI_add]
  refine ⟨_, rfl, (eqT.w (Or.inr (Or.inl rfl))).w' (Or.inr (Or.inr rfl)), ?_, fun x hx => ?_, fun s hs => ?_⟩
  · rw [show buyT P t h c 0 = t 0 by unfold buyT; rw [if_neg (by omega), if_neg (by omega)]]
    exact (congrFun (su_o (by omega)) 3).trans ((congrFun (su_o (by omega)) 3).trans tC.1)
  · rw [su_o (by omega), su_11]
    unfold buyT
    by_cases e : x = h
    · rw [if_pos ⟨rfl, e⟩, if_pos (by omega)]
    · rw [if_neg (fun q => e q.2), if_neg (by omega), if_neg (by omega)]
      exact tC.2.1 x hx
  · rw [su_11]
    unfold buyT
    by_cases e : s = h * 8 + c
    · rw [if_pos ⟨rfl, e⟩, if_neg (by omega), if_pos (by omega)]
    · rw [if_neg (fun q => e q.2), if_neg (by omega), if_neg (by omega), su_o (by omega)]
      exact tC.2.2 s hs
theorem lendC {τ : St} {P : Pl} {t : Tw} (hP : PlanOk P) (tC : TwC τ P t) {h g n : Nat} (hh : h < pH P) (hg : g < pH P) (hne : h ≠ g) (hp : n ≤ t (1 + h)) : ∃ τ', fX9_pass τ (nI h) (nI g) (nI n) = some (τ', ()) ∧ eqT τ τ' ∧ TwC τ' P (lendT t h g n) := by
  have h6 := hP.1
  unfold fX9_pass
  rw [rdC (show h < LC 33 by show h < 6; omega), tC.2.1 h hh, wrC (show h < LC 33 by show h < 6; omega), rdC (show g < LC 33 by show g < 6; omega), pk_sub hp, su_11, if_neg (fun q => hne q.2.symm), tC.2.1 g hg, nI_add, wrC (show g < LC 33 by show g < 6; omega)]
  refine ⟨_, rfl, (eqT.w (Or.inr (Or.inl rfl))).w' (Or.inr (Or.inl rfl)), ?_, fun x hx => ?_, fun s hs => ?_⟩
  · rw [show lendT t h g n 0 = t 0 by unfold lendT; rw [if_neg (by omega), if_neg (by omega)]]
    exact (congrFun (su_o (by omega)) 3).trans ((congrFun (su_o (by omega)) 3).trans tC.1)
  · rw [su_11, su_11]
    unfold lendT
    by_cases e1 : x = g
    · rw [if_pos ⟨rfl, e1⟩, if_neg (by omega), if_pos (by omega)]
    · rw [if_neg (fun q => e1 q.2)]
      by_cases e2 : x = h
      · rw [if_pos ⟨rfl, e2⟩, if_pos (by omega)]
      · rw [if_neg (fun q => e2 q.2), if_neg (by omega), if_neg (by omega)]
        exact tC.2.1 x hx
  · rw [su_o (by omega), su_o (by omega), show lendT t h g n (7 + s) = t (7 + s) by unfold lendT; rw [if_neg (by omega), if_neg (by omega)]]
    exact tC.2.2 s hs
theorem tradeC {τ : St} {P : Pl} {t : Tw} (hP : PlanOk P) (tC : TwC τ P t) {h c g d : Nat} (hh : h < pH P) (hg : g < pH P) (hc : c < pC P) (hd : d < pC P) (n1 : h ≠ g) (n2 : c ≠ d) : ∃ τ', fX9_swap τ (nI h) (nI c) (nI g) (nI d) = some (τ', ()) ∧ eqT τ τ' ∧ TwC τ' P (tradeT t h c g d) := by
  have h6 := hP.1
  have h8 := hP.2.1
  unfold fX9_swap fX9_slot
  simp only [cl_s, L_8, pk_mul, nI_add]
  rw [rdC (show h * 8 + c < LC 34 by show _ < 48; omega), tC.2.2 _ (by omega), wrC (show g * 8 + c < LC 34 by show _ < 48; omega)]
  rw [rdC (show g * 8 + d < LC 34 by show _ < 48; omega), su_11, if_neg (by omega), tC.2.2 _ (by omega), wrC (show h * 8 + d < LC 34 by show _ < 48; omega)]
  rw [wrC (show h * 8 + c < LC 34 by show _ < 48; omega)]
  rw [wrC (show g * 8 + d < LC 34 by show _ < 48; omega)]
  refine ⟨_, rfl, (((eqT.w (Or.inr (Or.inr rfl))).w' (Or.inr (Or.inr rfl))).w' (Or.inr (Or.inr rfl))).w' (Or.inr (Or.inr rfl)), ?_, fun x hx => ?_, fun s hs => ?_⟩
  · rw [su_o (by omega), su_o (by omega), su_o (by omega), su_o (by omega), show tradeT t h c g d 0 = t 0 by unfold tradeT; rw [if_neg (by omega), if_neg (by omega), if_neg (by omega), if_neg (by omega)]]
    exact tC.1
  · rw [su_o (by omega), su_o (by omega), su_o (by omega), su_o (by omega), show tradeT t h c g d (1 + x) = t (1 + x) by unfold tradeT; rw [if_neg (by omega), if_neg (by omega), if_neg (by omega), if_neg (by omega)]]
    exact tC.2.1 x hx
  · rw [su_11, su_11, su_11, su_11]
    unfold tradeT
    by_cases e1 : s = g * 8 + d
    · rw [if_pos ⟨rfl, e1⟩, if_neg (by omega), if_neg (by omega), if_neg (by omega), if_pos (by omega)]
      rfl
    · rw [if_neg (fun q => e1 q.2)]
      by_cases e2 : s = h * 8 + c
      · rw [if_pos ⟨rfl, e2⟩, if_neg (by omega), if_neg (by omega), if_pos (by omega)]
        rfl
      · rw [if_neg (fun q => e2 q.2)]
        by_cases e3 : s = h * 8 + d
        · rw [if_pos ⟨rfl, e3⟩, if_neg (by omega), if_pos (by omega), show 7 + (g * 8 + d) = 7 + 8 * g + d by omega]
        · rw [if_neg (fun q => e3 q.2)]
          by_cases e4 : s = g * 8 + c
          · rw [if_pos ⟨rfl, e4⟩, if_pos (by omega), show 7 + (h * 8 + c) = 7 + 8 * h + c by omega]
          · rw [if_neg (fun q => e4 q.2), if_neg (by omega), if_neg (by omega), if_neg (by omega), if_neg (by omega)]
            exact tC.2.2 s hs
theorem fld {d : Nat} (hd : d < 1048576) : nI d &&& 15 = nI (wy d) ∧ (nI d >>> ((4 : Int32) &&& 31)) &&& 15 = nI (dh d) ∧ (nI d >>> ((8 : Int32) &&& 31)) &&& 15 = nI (dc d) ∧ (nI d >>> ((12 : Int32) &&& 31)) &&& 15 = nI (dg d) ∧ (nI d >>> ((16 : Int32) &&& 31)) &&& 15 = nI (dd d) := by
  refine ⟨pk_andN (by omega) 4 rfl, ?_, ?_, ?_, ?_⟩
  · rw [pk_shrN (by omega) _ 4 rfl, pk_andN (by omega) 4 rfl]; rfl
  · rw [pk_shrN (by omega) _ 8 rfl, pk_andN (by omega) 4 rfl]; rfl
  · rw [pk_shrN (by omega) _ 12 rfl, pk_andN (by omega) 4 rfl]; rfl
  · rw [pk_shrN (by omega) _ 16 rfl, pk_andN (by omega) 4 rfl]; rfl
theorem perfC {τ : St} {P : Pl} {t : Tw} {d : Nat} (hP : PlanOk P) (hC : PlC τ P) (ht : TwOk P t) (tC : TwC τ P t) (hv : valid P t d) : ∃ τ', fX3_perform τ (nI d) = some (τ', ()) ∧ eqT τ τ' ∧ TwC τ' P (perf P t d) := by
  obtain ⟨hd, hcase⟩ := hv
  obtain ⟨f0, f1, f2, f3, f4⟩ := fld hd
  have hw : wy d < 16 := by unfold wy; omega
  unfold fX3_perform perf
  rw [f0, f1, f2, f3, f4]
  simp only [L_1, L_2, L_3, L_4, n_eq (show wy d < 2 ^ 31 by omega) (show 1 < 2 ^ 31 by omega), n_eq (show wy d < 2 ^ 31 by omega) (show 2 < 2 ^ 31 by omega), n_eq (show wy d < 2 ^ 31 by omega) (show 3 < 2 ^ 31 by omega), n_eq (show wy d < 2 ^ 31 by omega) (show 4 < 2 ^ 31 by omega)]
  obtain h | ⟨h, a⟩ | ⟨h, a, b, c, e⟩ | ⟨h, a1, a2, a3, a4, a5, a6, a7, a8, a9, a10⟩ | ⟨h, a1, a2, a3, a4, a5, a6, a7⟩ := hcase
  · simp only [h, show ((0 : Nat) = 1) = False by simp, show ((0 : Nat) = 2) = False by simp, show ((0 : Nat) = 3) = False by simp, show ((0 : Nat) = 4) = False by simp, if_false]
    exact ⟨τ, rfl, eqT.rf τ, tC⟩
  · simp only [h, if_true]
    obtain ⟨τ', e1, e2, e3⟩ := monthC hP hC ht tC
    rw [e1]
    exact ⟨τ', rfl, e2, e3⟩
  · simp only [h, show ((2 : Nat) = 1) = False by simp, if_true, if_false]
    obtain ⟨τ', e1, e2, e3⟩ := buyC hP hC ht tC a b e
    rw [e1]
    exact ⟨τ', rfl, e2, e3⟩
  · simp only [h, show ((3 : Nat) = 1) = False by simp, show ((3 : Nat) = 2) = False by simp, if_true, if_false]
    obtain ⟨τ', e1, e2, e3⟩ := tradeC hP tC a1 a2 a3 a4 a5 a6
    rw [e1]
    exact ⟨τ', rfl, e2, e3⟩
  · simp only [h, show ((4 : Nat) = 1) = False by simp, show ((4 : Nat) = 2) = False by simp, show ((4 : Nat) = 3) = False by simp, if_true, if_false]
    obtain ⟨τ', e1, e2, e3⟩ := lendC hP tC a1 a2 a3 a6
    rw [e1]
    exact ⟨τ', rfl, e2, e3⟩
