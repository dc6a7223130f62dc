/-! the relation of the two states -/
def RS (τ σ : St) : Prop := τ.1 0 11 = σ.1 0 17 ∧ τ.1 0 10 = σ.1 0 20 ∧ (∀ f, f < 6 → τ.1 51 f = σ.1 15 f) ∧ τ.2 48 2 = σ.2 0 18 ∧ τ.2 48 3 = σ.2 0 19
def RR (τ σ : St) : Prop := ∀ r, r < 6 → τ.1 3 r = σ.1 1 r ∧ (σ.1 1 r = -1 ∨ ∃ n, n ≤ 40 ∧ σ.1 1 r = nI n) ∧ ∀ i, i < 40 → τ.1 (4 + r) i = σ.1 2 (40 * r + i)
def RX (τ σ : St) : Prop := ∀ r, r < 4 → τ.1 12 r = σ.1 3 r ∧ (σ.1 3 r = -1 ∨ ∃ n, n ≤ 90 ∧ σ.1 3 r = nI n) ∧ ∀ i, i < 90 → τ.1 (13 + r) i = σ.1 4 (90 * r + i)
/-- what a town's text told -/
abbrev Pl : Type := Nat → Nat → Nat
def pH (P : Pl) : Nat := P 0 0
def pC (P : Pl) : Nat := P 0 1
def kd (P : Pl) (h : Nat) : Nat := P 1 h
def ic (P : Pl) (h : Nat) : Nat := P 2 h
def pr (P : Pl) (c : Nat) : Nat := P 3 c
def la (P : Pl) (c : Nat) : Nat := P 4 c
def ln (P : Pl) (c : Nat) : Nat := P 5 c
def nm (P : Pl) (c i : Nat) : Nat := P 6 (7 * c + i)
def PlanOk (P : Pl) : Prop := pH P ≤ 6 ∧ pC P ≤ 8 ∧ ((pH P = 0 ∧ pC P = 0) ∨ (2 ≤ pH P ∧ 1 ≤ pC P)) ∧ (∀ h, h < pH P → kd P h < 6 ∧ ic P h ≤ 9) ∧ ∀ c, c < pC P → (1 ≤ pr P c ∧ pr P c ≤ 9) ∧ (1 ≤ la P c ∧ la P c ≤ 9) ∧ (1 ≤ ln P c ∧ ln P c ≤ 7) ∧ ∀ i, i < ln P c → nm P c i ≤ 25
def PlC (τ : St) (P : Pl) : Prop := τ.1 26 7 = nI (pH P) ∧ τ.1 26 6 = nI (pC P) ∧ (∀ h, h < pH P → τ.1 31 h = nI (kd P h) ∧ τ.1 32 h = nI (ic P h)) ∧ ∀ c, c < pC P → τ.1 29 c = nI (pr P c) ∧ τ.1 30 c = nI (la P c) ∧ τ.1 28 c = nI (ln P c) ∧ ∀ i, i < ln P c → τ.1 27 (7 * c + i) = nI (nm P c i)
def PlM (σ : St) (P : Pl) : Prop := σ.1 0 4 = nI (pH P) ∧ σ.1 0 7 = nI (pC P) ∧ (∀ h, h < pH P → σ.1 5 h = nI (kd P h) ∧ σ.1 6 h = nI (ic P h)) ∧ ∀ c, c < pC P → σ.1 8 c = nI (pr P c) ∧ σ.1 9 c = nI (la P c) ∧ ∀ i, i < 7 → σ.1 7 (7 * c + i) = if i < ln P c then nI (97 + nm P c i) else 0
/-- a town: 0 the month, 1 + h the purses, 7 + 8 h + c the ends -/
abbrev Tw : Type := Nat → Nat
def pay (k p : Nat) : Nat := if k = 2 then 2 * p else if k = 5 then min 9 (2 * p) else if k = 3 then max 1 (p - 1) else p
def hold (k l : Nat) : Nat := if k = 3 then l + 1 else if k = 5 then l + 2 else l
def nxt (k i u : Nat) : Nat := min 99 (if k = 1 then u + i else if k = 4 then u + i + u / 5 else if k = 5 then i + u / 2 else i)
def beginT (P : Pl) : Tw := fun j => if 1 ≤ j ∧ j < 1 + pH P then ic P (j - 1) else 0
def monthT (P : Pl) (t : Tw) : Tw := fun j => if j = 0 then t 0 + 1 else if j < 7 then (if j < 1 + pH P then nxt (kd P (j - 1)) (ic P (j - 1)) (t j) else t j) else if t j ≤ t 0 + 1 then 0 else t j
def buyT (P : Pl) (t : Tw) (h c : Nat) : Tw := fun j => if j = 1 + h then t (1 + h) - pay (kd P h) (pr P c) else if j = 7 + 8 * h + c then t 0 + hold (kd P h) (la P c) else t j
def tradeT (t : Tw) (h c g d : Nat) : Tw := fun j => if j = 7 + 8 * g + c then t (7 + 8 * h + c) else if j = 7 + 8 * h + d then t (7 + 8 * g + d) else if j = 7 + 8 * h + c then 0 else if j = 7 + 8 * g + d then 0 else t j
def lendT (t : Tw) (h g n : Nat) : Tw := fun j => if j = 1 + h then t (1 + h) - n else if j = 1 + g then t (1 + g) + n else t j
def wy (d : Nat) : Nat := d % 16
def dh (d : Nat) : Nat := d / 16 % 16
def dc (d : Nat) : Nat := d / 256 % 16
def dg (d : Nat) : Nat := d / 4096 % 16
def dd (d : Nat) : Nat := d / 65536 % 16
def valid (P : Pl) (t : Tw) (d : Nat) : Prop := d < 1048576 ∧ (wy d = 0 ∨ (wy d = 1 ∧ t 0 < 99) ∨ (wy d = 2 ∧ dh d < pH P ∧ dc d < pC P ∧ t (7 + 8 * dh d + dc d) = 0 ∧ pay (kd P (dh d)) (pr P (dc d)) ≤ t (1 + dh d)) ∨ (wy d = 3 ∧ dh d < pH P ∧ dg d < pH P ∧ dc d < pC P ∧ dd d < pC P ∧ dh d ≠ dg d ∧ dc d ≠ dd d ∧ t (7 + 8 * dh d + dc d) ≠ 0 ∧ t (7 + 8 * dg d + dd d) ≠ 0 ∧ t (7 + 8 * dh d + dd d) = 0 ∧ t (7 + 8 * dg d + dc d) = 0) ∨ (wy d = 4 ∧ dh d < pH P ∧ dg d < pH P ∧ dh d ≠ dg d ∧ 1 ≤ dd d ∧ dd d ≤ 9 ∧ dd d ≤ t (1 + dh d) ∧ t (1 + dg d) + dd d ≤ 99))
def perf (P : Pl) (t : Tw) (d : Nat) : Tw := if wy d = 1 then monthT P t else if wy d = 2 then buyT P t (dh d) (dc d) else if wy d = 3 then tradeT t (dh d) (dc d) (dg d) (dd d) else if wy d = 4 then lendT t (dh d) (dg d) (dd d) else t
def rep (P : Pl) (ds : Nat → Nat) : Nat → Tw
  | 0 => beginT P
  | n + 1 => perf P (rep P ds n) (ds n)
def TwOk (P : Pl) (t : Tw) : Prop := t 0 ≤ 99 ∧ (∀ h, h < pH P → t (1 + h) ≤ 99) ∧ (∀ h, pH P ≤ h → h < 6 → t (1 + h) = 0) ∧ (∀ h c, h < 6 → c < 8 → t (7 + 8 * h + c) ≠ 0 → h < pH P ∧ c < pC P ∧ t 0 < t (7 + 8 * h + c) ∧ t (7 + 8 * h + c) ≤ t 0 + 11)
def TwC (τ : St) (P : Pl) (t : Tw) : Prop := τ.1 25 3 = nI (t 0) ∧ (∀ h, h < pH P → τ.1 33 h = nI (t (1 + h))) ∧ ∀ s, s < 48 → τ.1 34 s = nI (t (7 + s))
def TwM (a : Nat → Int32) (t : Tw) : Prop := ∀ j, j < 55 → a j = nI (t j)
def DdOk (P : Pl) (ds : Nat → Nat) (n : Nat) : Prop := n ≤ 40 ∧ ∀ i, i < n → valid P (rep P ds i) (ds i)
def Dd (τ σ : St) (P : Pl) (ds : Nat → Nat) (n : Nat) : Prop := τ.1 24 4 = nI n ∧ σ.1 0 14 = nI n ∧ (∀ i, i < n → τ.1 35 i = nI (ds i)) ∧ ∀ i j, i < n → j < 55 → σ.1 12 (55 * i + j) = nI (rep P ds i j)
def Kp (τ σ : St) (P : Pl) : Prop := ∀ k, k < 3 → (τ.1 40 k = -1 ∧ σ.1 14 k = 0) ∨ (pH P ≠ 0 ∧ ∃ (m : Nat) (ds : Nat → Nat), DdOk P ds m ∧ τ.1 40 k = nI m ∧ σ.1 14 k = 1 ∧ (∀ i, i < m → τ.1 (37 + k) i = nI (ds i)) ∧ σ.1 13 (2256 * k + 55) = nI m ∧ (∀ j, j < 55 → σ.1 13 (2256 * k + j) = nI (rep P ds m j)) ∧ ∀ i j, i < m → j < 55 → σ.1 13 (2256 * k + 56 + (55 * i + j)) = nI (rep P ds i j))
def RT (τ σ : St) : Prop := ∃ (P : Pl) (ds : Nat → Nat) (n : Nat), PlanOk P ∧ (pH P = 0 → n = 0) ∧ PlC τ P ∧ PlM σ P ∧ DdOk P ds n ∧ TwC τ P (rep P ds n) ∧ TwM (σ.1 10) (rep P ds n) ∧ Dd τ σ P ds n ∧ Kp τ σ P
def Rel (τ σ : St) : Prop := RS τ σ ∧ RR τ σ ∧ RX τ σ ∧ RT τ σ
/-- what isn't touched -/
theorem RR.fr {τ σ τ' σ' : St} (h : RR τ σ) (hC : ∀ k, 3 ≤ k → k < 10 → τ'.1 k = τ.1 k) (hM : ∀ k, 1 ≤ k → k < 3 → σ'.1 k = σ.1 k) : RR τ' σ' := fun r hr => by
  rw [hC 3 (by omega) (by omega), hM 1 (by omega) (by omega), hM 2 (by omega) (by omega), hC (4 + r) (by omega) (by omega)]
  exact h r hr
theorem RX.fr {τ σ τ' σ' : St} (h : RX τ σ) (hC : ∀ k, 12 ≤ k → k < 17 → τ'.1 k = τ.1 k) (hM : ∀ k, 3 ≤ k → k < 5 → σ'.1 k = σ.1 k) : RX τ' σ' := fun r hr => by
  rw [hC 12 (by omega) (by omega), hM 3 (by omega) (by omega), hM 4 (by omega) (by omega), hC (13 + r) (by omega) (by omega)]
  exact h r hr
theorem RT.fr {τ σ τ' σ' : St} (h : RT τ σ) (hC : ∀ k, 24 ≤ k → k < 41 → τ'.1 k = τ.1 k) (hM : ∀ k, 5 ≤ k → k < 15 → k ≠ 11 → σ'.1 k = σ.1 k) (h4 : σ'.1 0 4 = σ.1 0 4) (h7 : σ'.1 0 7 = σ.1 0 7) (h14 : σ'.1 0 14 = σ.1 0 14) : RT τ' σ' := by
  obtain ⟨P, ds, n, a1, a0, a2, a3, a4, a5, a6, a7, a8⟩ := h
  refine ⟨P, ds, n, a1, a0, ?_, ?_, a4, ?_, ?_, ?_, ?_⟩
  · unfold PlC
    rw [hC 26 (by omega) (by omega), hC 31 (by omega) (by omega), hC 32 (by omega) (by omega), hC 29 (by omega) (by omega), hC 30 (by omega) (by omega), hC 28 (by omega) (by omega), hC 27 (by omega) (by omega)]
    exact a2
  · unfold PlM
    rw [h4, h7, hM 5 (by omega) (by omega) (by omega), hM 6 (by omega) (by omega) (by omega), hM 8 (by omega) (by omega) (by omega), hM 9 (by omega) (by omega) (by omega), hM 7 (by omega) (by omega) (by omega)]
    exact a3
  · unfold TwC
    rw [hC 25 (by omega) (by omega), hC 33 (by omega) (by omega), hC 34 (by omega) (by omega)]
    exact a5
  · rw [hM 10 (by omega) (by omega) (by omega)]
    exact a6
  · unfold Dd
    rw [hC 24 (by omega) (by omega), hC 35 (by omega) (by omega), h14, hM 12 (by omega) (by omega) (by omega)]
    exact a7
  · intro k hk
    rw [hC 40 (by omega) (by omega), hM 14 (by omega) (by omega) (by omega), hC (37 + k) (by omega) (by omega), hM 13 (by omega) (by omega) (by omega)]
    exact a8 k hk
theorem RS.found {τ σ : St} (h : RS τ σ) {w : Nat} (hw : w < 6) : RS (refu τ w) (fnd σ w) := by
  obtain ⟨h1, h2, h3, h4, h5⟩ := h
  unfold refu fnd RS
  simp only [su_11, su_2]
  refine ⟨by simpa using h1, by simp, fun f hf => ?_, h4, h5⟩
  by_cases e : f = w
  · subst e
    simp [h3 f hf]
  · simp [e, h3 f hf]
theorem Rel.found {τ σ : St} (h : Rel τ σ) {w : Nat} (hw : w < 6) : Rel (refu τ w) (fnd σ w) := by
  obtain ⟨h1, h2, h3, h4⟩ := h
  have eC : ∀ k, k ≠ 0 → k ≠ 51 → (refu τ w).1 k = τ.1 k := fun k a b => by unfold refu; rw [su_o b, su_o a]
  have eM : ∀ k, k ≠ 0 → k ≠ 15 → (fnd σ w).1 k = σ.1 k := fun k a b => by unfold fnd; rw [su_o b, su_o a]
  refine ⟨h1.found hw, h2.fr (fun k a b => eC k (by omega) (by omega)) (fun k a b => eM k (by omega) (by omega)), h3.fr (fun k a b => eC k (by omega) (by omega)) (fun k a b => eM k (by omega) (by omega)), h4.fr (fun k a b => eC k (by omega) (by omega)) (fun k a b _ => eM k (by omega) (by omega)) ?_ ?_ ?_⟩ <;> (unfold fnd; simp [su_11])
/-- what is told -/
theorem Rel.told {τ σ : St} (h : Rel τ σ) (v : Int32) : Rel (su τ 0 11 v) (su σ 0 17 v) := by
  obtain ⟨⟨h1, h1b, h1c, h1d, h1e⟩, h2, h3, h4⟩ := h
  have eC : ∀ k, k ≠ 0 → (su τ 0 11 v).1 k = τ.1 k := fun k a => su_o a
  have eM : ∀ k, k ≠ 0 → (su σ 0 17 v).1 k = σ.1 k := fun k a => su_o a
  refine ⟨⟨by simp [su_11], by simpa [su_11] using h1b, fun f hf => by simpa [su_11] using h1c f hf, h1d, h1e⟩, h2.fr (fun k a b => eC k (by omega)) (fun k a b => eM k (by omega)), h3.fr (fun k a b => eC k (by omega)) (fun k a b => eM k (by omega)), h4.fr (fun k a b => eC k (by omega)) (fun k a b _ => eM k (by omega)) ?_ ?_ ?_⟩ <;> simp [su_11]
/-- the start -/
theorem Rel.start : Rel t0C s0M := by
  refine ⟨⟨rfl, rfl, fun f _ => rfl, rfl, rfl⟩, fun r hr => ?_, fun r hr => ?_, ⟨fun _ _ => 0, fun _ => 0, 0, ?_, fun _ => rfl, ?_, ?_, ?_, ?_, ?_, ?_, ?_⟩⟩
  · refine ⟨rfl, Or.inl ?_, fun i hi => ?_⟩
    · show (if r < 6 then -1 else 0) = (-1 : Int32)
      rw [if_pos hr]
    · match r, hr with
      | 0, _ => rfl
      | 1, _ => rfl
      | 2, _ => rfl
      | 3, _ => rfl
      | 4, _ => rfl
      | 5, _ => rfl
  · refine ⟨rfl, Or.inl ?_, fun i hi => ?_⟩
    · show (if r < 4 then -1 else 0) = (-1 : Int32)
      rw [if_pos hr]
    · match r, hr with
      | 0, _ => rfl
      | 1, _ => rfl
      | 2, _ => rfl
      | 3, _ => rfl
  · exact ⟨by decide, by decide, Or.inl ⟨rfl, rfl⟩, fun h hh => absurd hh (by simp [pH]), fun c hc => absurd hc (by simp [pC])⟩
  · exact ⟨rfl, rfl, fun h hh => absurd hh (by simp [pH]), fun c hc => absurd hc (by simp [pC])⟩
  · exact ⟨rfl, rfl, fun h hh => absurd hh (by simp [pH]), fun c hc => absurd hc (by simp [pC])⟩
  · exact ⟨by decide, fun i hi => absurd hi (by omega)⟩
  · refine ⟨rfl, fun h hh => absurd hh (by simp [pH]), fun s hs => ?_⟩
    show (0 : Int32) = nI (beginT (fun _ _ => 0) (7 + s))
    unfold beginT pH
    rw [if_neg (show ¬ (1 ≤ 7 + s ∧ 7 + s < 1 + 0) by omega)]
    rfl
  · intro j hj
    show (0 : Int32) = nI (beginT (fun _ _ => 0) j)
    unfold beginT pH
    rw [if_neg (show ¬ (1 ≤ j ∧ j < 1 + 0) by omega)]
    rfl
  · exact ⟨rfl, rfl, fun i hi => absurd hi (by omega), fun i j hi => absurd hi (by omega)⟩
  · intro k hk
    refine Or.inl ⟨?_, rfl⟩
    show (if k < 3 then -1 else 0) = (-1 : Int32)
    rw [if_pos hk]
