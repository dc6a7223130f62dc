/-! one more deed -/
theorem buysM {σ : St} {P : Pl} {t : Tw} (hP : PlanOk P) (hM : PlM σ P) (ht : TwOk P t) (tM : TwM (σ.1 10) t) {h c : Nat} (hh : h < pH P) (hc : c < pC P) (hp : pay (kd P h) (pr P c) ≤ t (1 + h)) : ∃ ρ, fX11_buys σ (nI h) (nI c) = some (ρ, ()) ∧ eqB 10 σ ρ ∧ TwM (ρ.1 10) (buyT P t h c) := by
  have h6 := hP.1
  have h8 := hP.2.1
  unfold fX11_buys
  have e1 : eqB 10 σ (su σ 10 (1 + h) (nI (t (1 + h) - pay (kd P h) (pr P c)))) := eqB.w
  rw [L_1, nI_add, rdM (show 1 + h < LM 10 by show _ < 55; omega), tM (1 + h) (by omega), paysM hP hM hh hc, cl_s, pk_sub hp, wrM (show 1 + h < LM 10 by show _ < 55; omega), L_0, rdM (show 0 < LM 10 by decide), su_11, if_neg (by omega), tM 0 (by omega), holdsM hP (e1.plan (Or.inl rfl) hM) hh hc, cl_s, L_8, L_7, pk_mul, nI_add, nI_add, nI_add, wrM (show 7 + 8 * h + c < LM 10 by show _ < 55; omega)]
  refine ⟨_, rfl, e1.trans eqB.w, fun j hj => ?_⟩
  rw [su_11, su_11]
  unfold buyT
  by_cases a1 : j = 7 + 8 * h + c
  · rw [if_pos ⟨rfl, a1⟩, if_neg (by omega), if_pos a1]
  · rw [if_neg (fun x => a1 x.2)]
    by_cases a2 : j = 1 + h
    · rw [if_pos ⟨rfl, a2⟩, if_pos a2]
    · rw [if_neg (fun x => a2 x.2), if_neg a2, if_neg a1, tM j hj]
theorem has0 (ρ : St) {h : Nat} (hh : h < 6) : fX11_has ρ 0 (nI h) = some (ρ, if false then 1 else 0) := by
  unfold fX11_has
  rw [if_neg]
  · rfl
  · match h, hh with
    | 0, _ => decide
    | 1, _ => decide
    | 2, _ => decide
    | 3, _ => decide
    | 4, _ => decide
    | 5, _ => decide
theorem passM {σ : St} {P : Pl} {t : Tw} {k : Nat} (hP : PlanOk P) (hM : PlM σ P) (hk : k = 10 ∨ k = 11) (ht : TwW P t) (tM : TwM (σ.1 k) t) : ∃ ρ, fX11_passes σ k 0 = some (ρ, fo (fFade t) 0 48 0) ∧ eqB k σ ρ ∧ TwM (ρ.1 k) (monthT P t) := by
  have h6 := hP.1
  exact passesM (inc := ic P) (out := fun _ => false) hP hM hk ht tM (fun ρ h hh => has0 ρ (by omega)) (fun _ _ => rfl)
theorem i32c (x y : Int32) : x + 1 - (y + 1) = x - y := by
  rw [Int32.sub_eq_add_neg, Int32.neg_add, Int32.sub_eq_add_neg, Int32.sub_eq_add_neg, Int32.add_assoc, ← Int32.add_assoc 1, Int32.add_comm 1 (-y), Int32.add_assoc, Int32.add_right_neg, Int32.add_zero]
theorem i32d (x y : Int32) : x + 1 - y = x - y + 1 := by
  rw [Int32.sub_eq_add_neg, Int32.sub_eq_add_neg, Int32.add_assoc, Int32.add_comm 1, Int32.add_assoc]
theorem fades_eq (P : Pl) (t : Tw) : ∀ m, fo (fThing t) 0 m 0 - fo (fThing (monthT P t)) 0 m 0 = fo (fFade t) 0 m 0
  | 0 => Int32.sub_self 0
  | m + 1 => by
    rw [fo_succ, fo_succ, fo_succ, ← fades_eq P t m, Nat.zero_add]
    generalize fo (fThing t) 0 m 0 = x
    generalize fo (fThing (monthT P t)) 0 m 0 = y
    have e5 : monthT P t (7 + m) = if t (7 + m) ≤ t 0 + 1 then 0 else t (7 + m) := by
      unfold monthT
      rw [if_neg (by omega), if_neg (by omega)]
    unfold fThing fFade
    rw [e5]
    by_cases z : t (7 + m) = 0
    · rw [if_pos z, if_pos z, if_pos (show t (7 + m) ≤ t 0 + 1 by omega), if_pos rfl]
    · rw [if_neg z, if_neg z]
      by_cases z2 : t (7 + m) ≤ t 0 + 1
      · rw [if_pos z2, if_pos rfl, if_neg (by omega), i32d]
      · rw [if_neg z2, if_neg z, if_pos (by omega), i32c]
theorem orN (a b : Nat) : nI a ||| nI b = nI (a ||| b) := Int32.toBitVec_inj.mp (BitVec.ofNat_or (w := 32) (x := a) (y := b)).symm
theorem packC (σ : St) {a b c d e : Nat} (ha : a < 16) (hb : b < 16) (hc : c < 16) (hd : d < 16) (he : e < 16) : fX3_pack σ (nI a) (nI b) (nI c) (nI d) (nI e) = some (σ, nI (a + 16 * b + 256 * c + 4096 * d + 65536 * e)) := by
  unfold fX3_pack
  rw [pk_shlN _ 4 rfl (by omega), pk_shlN _ 8 rfl (by omega), pk_shlN _ 12 rfl (by omega), pk_shlN _ 16 rfl (by omega), orN, orN, orN, orN]
  rw [show a ||| b * 2 ^ 4 = a + 16 * b by rw [Nat.or_comm, Nat.mul_comm, ← Nat.two_pow_add_eq_or_of_lt (by omega)]; omega]
  rw [show (a + 16 * b) ||| c * 2 ^ 8 = a + 16 * b + 256 * c by rw [Nat.or_comm, Nat.mul_comm c, ← Nat.two_pow_add_eq_or_of_lt (by omega)]; omega]
  rw [show (a + 16 * b + 256 * c) ||| d * 2 ^ 12 = a + 16 * b + 256 * c + 4096 * d by rw [Nat.or_comm, Nat.mul_comm d, ← Nat.two_pow_add_eq_or_of_lt (by omega)]; omega]
  rw [show (a + 16 * b + 256 * c + 4096 * d) ||| e * 2 ^ 16 = a + 16 * b + 256 * c + 4096 * d + 65536 * e by rw [Nat.or_comm, Nat.mul_comm e, ← Nat.two_pow_add_eq_or_of_lt (by omega)]; omega]
def RO (τ σ : St) (P : Pl) (ds : Nat → Nat) (n : Nat) : Prop := RS τ σ ∧ RR τ σ ∧ RX τ σ ∧ PlanOk P ∧ (pH P = 0 → n = 0) ∧ PlC τ P ∧ PlM σ P ∧ DdOk P ds n ∧ TwC τ P (rep P ds n) ∧ TwM (σ.1 10) (rep P ds n) ∧ Dd τ σ P ds n ∧ Kp τ σ P
theorem Rel.ro {τ σ : St} (h : Rel τ σ) : ∃ P ds n, RO τ σ P ds n := by
  obtain ⟨h1, h2, h3, P, ds, n, h4⟩ := h
  exact ⟨P, ds, n, h1, h2, h3, h4⟩
theorem RO.rel {τ σ : St} {P : Pl} {ds : Nat → Nat} {n : Nat} (h : RO τ σ P ds n) : Rel τ σ := ⟨h.1, h.2.1, h.2.2.1, P, ds, n, h.2.2.2⟩
def snoc (ds : Nat → Nat) (n d : Nat) : Nat → Nat := fun i => if i = n then d else ds i
theorem rep_congr {P : Pl} {ds ds' : Nat → Nat} : ∀ n, (∀ i, i < n → ds i = ds' i) → rep P ds n = rep P ds' n
  | 0, _ => rfl
  | n + 1, h => by
    show perf P (rep P ds n) (ds n) = perf P (rep P ds' n) (ds' n)
    rw [rep_congr n (fun i hi => h i (by omega)), h n (by omega)]
theorem rep_snoc {P : Pl} {ds : Nat → Nat} {n d i : Nat} (h : i ≤ n) : rep P (snoc ds n d) i = rep P ds i := rep_congr i (fun j hj => if_neg (by omega))
theorem rep_snoc1 {P : Pl} {ds : Nat → Nat} {n d : Nat} : rep P (snoc ds n d) (n + 1) = perf P (rep P ds n) d := by
  show perf P (rep P (snoc ds n d) n) (snoc ds n d n) = _
  rw [rep_snoc (by omega), show snoc ds n d n = d from if_pos rfl]
def notd (σ : St) (n : Nat) : St := su (sc σ 12 (fun q => if 55 * n ≤ q ∧ q < 55 * n + 55 then σ.1 10 (0 + (q - 55 * n)) else σ.1 12 q)) 0 14 (nI (n + 1))
theorem RO.deed {τ σ τ' σ' : St} {P : Pl} {ds : Nat → Nat} {n d : Nat} (h : RO τ σ P ds n) (hH : pH P ≠ 0) (hn : n < 40) (hv : valid P (rep P ds n) d) (eC : eqT (su (su τ 35 n (nI d)) 24 4 (nI (n + 1))) τ') (tC : TwC τ' P (perf P (rep P ds n) d)) (eM : eqB 10 (notd σ n) σ') (tM : TwM (σ'.1 10) (perf P (rep P ds n) d)) : RO τ' σ' P (snoc ds n d) (n + 1) := by
  obtain ⟨h1, h2, h3, hP, h0, hC, hM, hd, _, tM0, ⟨d1, d2, d3, d4⟩, hK⟩ := h
  have cC : ∀ k, k ≠ 24 → k ≠ 25 → k ≠ 33 → k ≠ 34 → k ≠ 35 → τ'.1 k = τ.1 k := fun k a b c d e => by rw [eC.1 k b c d, su_o a, su_o e]
  have cM : ∀ k, k ≠ 0 → k ≠ 10 → k ≠ 12 → σ'.1 k = σ.1 k := fun k a b c => by rw [eM.1 k b]; unfold notd; rw [su_o a, sc_o c]
  have c0 : ∀ j, j ≠ 14 → σ'.1 0 j = σ.1 0 j := fun j hj => by rw [eM.1 0 (by omega)]; unfold notd; rw [su_11, if_neg (by omega), sc_o (by omega)]
  have cC2 : τ'.2 = τ.2 := eC.2
  have cM2 : σ'.2 = σ.2 := eM.2
  refine ⟨?_, h2.fr (fun k a b => cC k (by omega) (by omega) (by omega) (by omega) (by omega)) (fun k a b => cM k (by omega) (by omega) (by omega)), h3.fr (fun k a b => cC k (by omega) (by omega) (by omega) (by omega) (by omega)) (fun k a b => cM k (by omega) (by omega) (by omega)), hP, fun q => absurd q hH, ?_, ?_, ?_, ?_, ?_, ⟨?_, ?_, fun i hi => ?_, fun i j hi hj => ?_⟩, ?_⟩
  · unfold RS
    rw [cC 0 (by omega) (by omega) (by omega) (by omega) (by omega), cC 51 (by omega) (by omega) (by omega) (by omega) (by omega), c0 17 (by omega), c0 20 (by omega), cM 15 (by omega) (by omega) (by omega), cC2, cM2]
    exact h1
  · unfold PlC
    rw [cC 26 (by omega) (by omega) (by omega) (by omega) (by omega), cC 31 (by omega) (by omega) (by omega) (by omega) (by omega), cC 32 (by omega) (by omega) (by omega) (by omega) (by omega), cC 29 (by omega) (by omega) (by omega) (by omega) (by omega), cC 30 (by omega) (by omega) (by omega) (by omega) (by omega), cC 28 (by omega) (by omega) (by omega) (by omega) (by omega), cC 27 (by omega) (by omega) (by omega) (by omega) (by omega)]
    exact hC
  · unfold PlM
    rw [c0 4 (by omega), c0 7 (by omega), cM 5 (by omega) (by omega) (by omega), cM 6 (by omega) (by omega) (by omega), cM 7 (by omega) (by omega) (by omega), cM 8 (by omega) (by omega) (by omega), cM 9 (by omega) (by omega) (by omega)]
    exact hM
  · refine ⟨by omega, fun i hi => ?_⟩
    by_cases e : i = n
    · rw [e, rep_snoc (by omega), show snoc ds n d n = d from if_pos rfl]
      exact hv
    · rw [rep_snoc (by omega), show snoc ds n d i = ds i from if_neg e]
      exact hd.2 i (by omega)
  · rw [rep_snoc1]
    exact tC
  · rw [rep_snoc1]
    exact tM
  · rw [eC.1 24 (by omega) (by omega) (by omega), su_11, if_pos ⟨rfl, rfl⟩]
  · rw [eM.1 0 (by omega)]
    unfold notd
    rw [su_11, if_pos ⟨rfl, rfl⟩]
  · rw [eC.1 35 (by omega) (by omega) (by omega), su_o (by omega), su_11]
    by_cases e : i = n
    · rw [if_pos ⟨rfl, e⟩, show snoc ds n d i = d from if_pos e]
    · rw [if_neg (fun x => e x.2), show snoc ds n d i = ds i from if_neg e]
      exact d3 i (by omega)
  · rw [eM.1 12 (by omega)]
    unfold notd
    rw [su_o (by omega), sc_11, if_pos rfl, rep_snoc (by omega)]
    by_cases e : i = n
    · rw [e, if_pos (by omega), show 0 + (55 * n + j - 55 * n) = j by omega, tM0 j hj]
    · rw [if_neg (by omega)]
      exact d4 i j (by omega) hj
  · intro k hk
    rw [cC 40 (by omega) (by omega) (by omega) (by omega) (by omega), cM 14 (by omega) (by omega) (by omega), cC (37 + k) (by omega) (by omega) (by omega) (by omega) (by omega), cM 13 (by omega) (by omega) (by omega)]
    exact hK k hk
theorem RO.plan {τ σ : St} {P : Pl} {ds : Nat → Nat} {n : Nat} (h : RO τ σ P ds n) : PlanOk P ∧ PlC τ P ∧ PlM σ P := ⟨h.2.2.2.1, h.2.2.2.2.2.1, h.2.2.2.2.2.2.1⟩
theorem RO.twn {τ σ : St} {P : Pl} {ds : Nat → Nat} {n : Nat} (h : RO τ σ P ds n) : TwOk P (rep P ds n) ∧ TwC τ P (rep P ds n) ∧ TwM (σ.1 10) (rep P ds n) := ⟨repOk h.2.2.2.1 h.2.2.2.2.2.2.2.1 n (Nat.le_refl n), h.2.2.2.2.2.2.2.2.1, h.2.2.2.2.2.2.2.2.2.1⟩
theorem RO.n40 {τ σ : St} {P : Pl} {ds : Nat → Nat} {n : Nat} (h : RO τ σ P ds n) : n ≤ 40 ∧ τ.1 24 4 = nI n ∧ σ.1 0 14 = nI n := ⟨h.2.2.2.2.2.2.2.1.1, h.2.2.2.2.2.2.2.2.2.2.1.1, h.2.2.2.2.2.2.2.2.2.2.1.2.1⟩
theorem notd_pl {σ : St} {P : Pl} {n : Nat} (hM : PlM σ P) : PlM (notd σ n) P := by
  unfold PlM notd
  rw [su_11, if_neg (by omega), su_11, if_neg (by omega), sc_o (by omega), su_o (by omega), su_o (by omega), su_o (by omega), su_o (by omega), su_o (by omega), sc_o (by omega), sc_o (by omega), sc_o (by omega), sc_o (by omega), sc_o (by omega)]
  exact hM
theorem notd_10 {σ : St} {n : Nat} : (notd σ n).1 10 = σ.1 10 := by
  unfold notd
  rw [su_o (by omega), sc_o (by omega)]
/-- the deed is added on both sides -/
theorem RO.adds {τ σ : St} {P : Pl} {ds : Nat → Nat} {n d : Nat} (h : RO τ σ P ds n) (hH : pH P ≠ 0) (hn : n < 40) (hv : valid P (rep P ds n) d) : ∃ τ', fX3_add τ (nI d) = some (τ', ()) ∧ TwC τ' P (perf P (rep P ds n) d) ∧ PlC τ' P ∧ fX11_notes σ = some (notd σ n, ()) ∧ ∀ σ', eqB 10 (notd σ n) σ' → TwM (σ'.1 10) (perf P (rep P ds n) d) → RO τ' σ' P (snoc ds n d) (n + 1) := by
  obtain ⟨hP, hC, hM⟩ := h.plan
  obtain ⟨ht, tC, tM⟩ := h.twn
  obtain ⟨_, n1, n2⟩ := h.n40
  obtain ⟨τ', e1, e2, e3⟩ := addC hP hC ht tC hn n1 hv
  refine ⟨τ', e1, e3, e2.plan (eqT.c24 ?_), notesM hn n2, fun σ' a b => h.deed hH hn hv e2 e3 a b⟩
  unfold PlC
  rw [su_o (by omega), su_o (by omega), su_o (by omega), su_o (by omega), su_o (by omega), su_o (by omega), su_o (by omega)]
  exact hC
theorem roomC {τ : St} {n m : Nat} (hs : τ.1 24 4 = nI n) (hn : n ≤ 40) (hm : m ≤ 1000) : fX3_hasRoomFor τ (nI m) = some (τ, if 40 < n + m then 0 else 1) := by
  unfold fX3_hasRoomFor
  rw [hs, nI_add]
  by_cases q : 40 < n + m
  · rw [if_pos q, if_pos (show (40 : Int32) < nI (n + m) from nI_lt (a := 40) q (by omega))]
  · rw [if_neg q, if_neg (show ¬ (40 : Int32) < nI (n + m) from nI_nlt (a := 40) (b := n + m) (by omega) (by omega))]
