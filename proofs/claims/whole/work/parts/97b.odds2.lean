/-! steps: odds, mid -/
theorem lowC {τ : St} {P : Pl} (hP : PlanOk P) (hC : PlC τ P) (p2 p4 : Int32) (w : Int64) (kk : St → Int64 → Int32 → Option (St × Unit)) : fX0_tellOdds_L15 p2 p4 w 10000 τ 1 0 kk = kk τ (lN (12 ^ pH P)) (nI (pH P)) := by
  have h6 := hP.1
  have L : ∀ (m i f : Nat), i + m = pH P → m < f → fX0_tellOdds_L15 p2 p4 w f τ (lN (12 ^ i)) (nI i) kk = kk τ (lN (12 ^ pH P)) (nI (pH P)) := by
    intro m
    induction m with
    | zero =>
      intro i f hi hf
      match f, hf with
      | f + 1, _ => rw [fX0_tellOdds_L15, hC.1, if_pos (nI_le (by omega) (by omega)), show i = pH P by omega]
    | succ m ih =>
      intro i f hi hf
      match f, hf with
      | f + 1, hf =>
        rw [fX0_tellOdds_L15, hC.1, if_neg (nI_ge (by omega) (by omega)), show lN (12 ^ i) * 12 = lN (12 ^ (i + 1)) from lN_mul (12 ^ i) 12, nI_1]
        exact ih (i + 1) f (by omega) (by omega)
  exact L (pH P) 0 10000 (by omega) (by omega)
theorem lowM {σ : St} {P : Pl} (hP : PlanOk P) (hM : PlM σ P) (p1 p2 p3 : Int32) (w : Int64) (kk : St → Int64 → Int32 → Option (St × Int32)) : fX11_weighs_L9 p1 p2 p3 w 10000 σ 1 0 kk = kk σ (lN (12 ^ pH P)) (nI (pH P)) := by
  have h6 := hP.1
  have L : ∀ (m i f : Nat), i + m = pH P → m < f → fX11_weighs_L9 p1 p2 p3 w f σ (lN (12 ^ i)) (nI i) kk = kk σ (lN (12 ^ pH P)) (nI (pH P)) := by
    intro m
    induction m with
    | zero =>
      intro i f hi hf
      match f, hf with
      | f + 1, _ => rw [fX11_weighs_L9, hM.1, if_pos (nI_le (by omega) (by omega)), show i = pH P by omega]
    | succ m ih =>
      intro i f hi hf
      match f, hf with
      | f + 1, hf =>
        rw [fX11_weighs_L9, hM.1, if_neg (nI_ge (by omega) (by omega)), show lN (12 ^ i) * 12 = lN (12 ^ (i + 1)) from lN_mul (12 ^ i) 12, nI_1]
        exact ih (i + 1) f (by omega) (by omega)
  exact L (pH P) 0 10000 (by omega) (by omega)
theorem wtM {σ : St} {P : Pl} (hP : PlanOk P) (hM : PlM σ P) {s p : Nat} (hp : p ≤ 12) (hs : s < 2 ^ 31) (p1 p2 : Int32) (v9 v6 : Int64) (kk : St → Int64 → Int32 → Option (St × Int32)) : fX11_weighs_L52 p1 p2 (nI p) v9 v6 (nI s) 10000 σ 1 0 kk = kk σ (lN (wS p s (pH P))) (nI (pH P)) := by
  have h6 := hP.1
  have L : ∀ (m i f : Nat), i + m = pH P → m < f → fX11_weighs_L52 p1 p2 (nI p) v9 v6 (nI s) f σ (lN (wS p s i)) (nI i) kk = kk σ (lN (wS p s (pH P))) (nI (pH P)) := by
    intro m
    induction m with
    | zero =>
      intro i f hi hf
      match f, hf with
      | f + 1, _ => rw [fX11_weighs_L52, hM.1, if_pos (nI_le (by omega) (by omega)), show i = pH P by omega]
    | succ m ih =>
      intro i f hi hf
      match f, hf with
      | f + 1, hf =>
        have ih' := ih (i + 1) f (by omega) (by omega)
        rw [show wS p s (i + 1) = wS p s i * (if s.testBit i then p else 12 - p) from rfl] at ih'
        rw [fX11_weighs_L52, hM.1, if_neg (nI_ge (by omega) (by omega)), hasN σ hs (by omega), cl_s, (pL hp).1, (pL hp).2, pv_s, nI_1]
        revert ih'
        cases s.testBit i
        · intro ih'
          simp only [Bool.false_eq_true, if_false, if_true] at ih' ⊢
          rw [lN_mul]
          exact ih'
        · intro ih'
          simp only [if_true, o10, if_false] at ih' ⊢
          rw [lN_mul]
          exact ih'
  exact L (pH P) 0 10000 (by omega) (by omega)
theorem sumS {P : Pl} {t : Tw} (hP : PlanOk P) {n s : Nat} : ∀ m, m ≤ pH P → fo (fun a i => a + nI (itT P (fun h => if s.testBit h then 0 else ic P h) t n (1 + i))) 0 m 0 = nI (sS (wiP P t n) (woP P t n) s m)
  | 0, _ => rfl
  | m + 1, h => by
    rw [fo_succ, sumS hP m (by omega), Nat.zero_add, itT_u hP (show m < pH P by omega)]
    show nI (sS (wiP P t n) (woP P t n) s m) + nI (itU (kd P m) (if s.testBit m then 0 else ic P m) (t (1 + m)) n) = nI (sS (wiP P t n) (woP P t n) s m + (if s.testBit m then woP P t n m else wiP P t n m))
    rw [nI_add]
    cases s.testBit m <;> rfl
theorem setsM {σ : St} {P : Pl} {t : Tw} (hP : PlanOk P) (hM : PlM σ P) (ht : TwOk P t) (tM : TwM (σ.1 10) t) {n p : Nat} (hn : n ≤ 60) (hp : p ≤ 12) (p1 : Int32) (g : Nat → Nat) (hg : ∀ s, s < 2 ^ pH P → (if 0 ≤ p1 then (if nI (sS (wiP P t n) (woP P t n) s (pH P)) < p1 then 0 else lN (wS p s (pH P))) else (lN (wS p s (pH P)) * (nI (sS (wiP P t n) (woP P t n) s (pH P))).toInt64)) = lN (g s)) (v6 : Int64) (kk : St → Int64 → Int32 → Option (St × Int32)) : ∃ ρ, eqB 11 σ ρ ∧ fX11_weighs_L35 p1 (nI n) (nI p) v6 10000 σ 0 0 kk = kk ρ (lN (Sg g (2 ^ pH P))) (nI (2 ^ pH P)) := by
  have h6 := hP.1
  have p64 : 2 ^ pH P ≤ 2 ^ 6 := Nat.pow_le_pow_right (by omega) h6
  have L := jloop (fun n' σ a i k2 => fX11_weighs_L35 p1 (nI n) (nI p) v6 n' σ a i (fun σ a i => k2 σ a i)) (2 ^ pH P) (fun i ρ b => eqB 11 σ ρ ∧ b = lN (Sg g i)) kk (fun n' ρ b hI => by
      show fX11_weighs_L35 p1 (nI n) (nI p) v6 (n' + 1) ρ b (nI (2 ^ pH P)) kk = _
      rw [fX11_weighs_L35, (hI.1.plan (Or.inr rfl) hM).1, shl1 (by omega), if_pos (nI_le (by omega) (by omega))]) (fun n' ρ b i hi hI => by
      obtain ⟨q1, q2⟩ := hI
      rw [q2]
      have pM := q1.plan (Or.inr rfl) hM
      have i31 : i < 2 ^ 31 := by omega
      obtain ⟨ρ1, r1, r2, r3⟩ := asideM (σ := ρ) (t := t) (by rw [q1.1 10 (by omega)]; exact tM)
      have pM1 := r2.plan (Or.inr rfl) pM
      obtain ⟨ρ2, v, g1, g2, g3⟩ := goesM (inc := fun h => if i.testBit h then 0 else ic P h) (out := fun h => i.testBit h) (w := nI i) hP pM1 ht r3 (fun ρ h hh => hasN ρ i31 (by omega)) (fun _ _ => rfl) hn
      refine ⟨ρ2, lN (Sg g (i + 1)), ⟨(q1.trans r2).trans g2, rfl⟩, ?_⟩
      show fX11_weighs_L35 p1 (nI n) (nI p) v6 (n' + 1) ρ (lN (Sg g i)) (nI i) kk = fX11_weighs_L35 p1 (nI n) (nI p) v6 n' ρ2 (lN (Sg g i + g i)) (nI (i + 1)) kk
      rw [fX11_weighs_L35, pM.1, shl1 (by omega), if_neg (nI_ge hi (by omega)), wtM hP pM hp i31, r1, cl_s, g1, cl_s, sumM hP (g2.plan (Or.inr rfl) pM1) rfl g3, cl_s, sumS hP (pH P) (Nat.le_refl _), pv_s, hg i hi, lN_add, nI_1]) (2 ^ pH P) 0 10000 σ 0 (by omega) (by omega) ⟨eqB.rf 11 σ, rfl⟩
  obtain ⟨ρ, b, ⟨q1, q2⟩, e⟩ := L
  rw [q2] at e
  exact ⟨ρ, q1, e⟩
theorem weighsM {σ : St} {P : Pl} {t : Tw} (hP : PlanOk P) (hM : PlM σ P) (ht : TwOk P t) (tM : TwM (σ.1 10) t) {n p : Nat} (hn : n ≤ 60) (hp : p ≤ 12) (p1 : Int32) (g : Nat → Nat) (hg : ∀ s, s < 2 ^ pH P → (if 0 ≤ p1 then (if nI (sS (wiP P t n) (woP P t n) s (pH P)) < p1 then 0 else lN (wS p s (pH P))) else (lN (wS p s (pH P)) * (nI (sS (wiP P t n) (woP P t n) s (pH P))).toInt64)) = lN (g s)) (gb : Sg g (2 ^ pH P) < 2 ^ 62) : ∃ ρ, eqB 11 σ ρ ∧ fX11_weighs σ p1 (nI n) (nI p) = some (sl (sl ρ 0 18 (lN (Sg g (2 ^ pH P) / Nat.gcd (12 ^ pH P) (Sg g (2 ^ pH P))))) 0 19 (lN (12 ^ pH P / Nat.gcd (12 ^ pH P) (Sg g (2 ^ pH P)))), 1) := by
  have h6 := hP.1
  have p12 : 12 ^ pH P ≤ 12 ^ 6 := Nat.pow_le_pow_right (by omega) h6
  have p0 : 0 < 12 ^ pH P := Nat.pow_pos (by omega)
  obtain ⟨ρ, q1, e⟩ := setsM hP hM ht tM hn hp p1 g hg (lN (12 ^ pH P)) (fun σ29 v30 v31 => cl (fX11_tellsPart σ29 v30 (lN (12 ^ pH P))) (fun σ32 r33 => some (σ32, r33)))
  refine ⟨ρ, q1, ?_⟩
  unfold fX11_weighs
  rw [pv_s, lowM hP hM]
  refine e.trans ?_
  show cl (fX11_tellsPart ρ _ _) _ = _
  rw [tellsM ρ gb (by omega) p0]
  rfl
def oF (P : Pl) (t : Tw) (n k p s : Nat) : Nat := if sS (wiP P t n) (woP P t n) s (pH P) < k then 0 else wS p s (pH P)
theorem oddsC {τ : St} {P : Pl} {t : Tw} (hP : PlanOk P) (hC : PlC τ P) (ht : TwOk P t) (tC : TwC τ P t) {k n p : Nat} (hk : k ≤ 600) (hn : n < 1000) (hp : p ≤ 12) (gb : Sg (oF P t n k p) (2 ^ pH P) < 2 ^ 62) : ∃ τ', eqQ τ τ' ∧ fX0_tellOdds τ (nI k) (nI n) (nI p) = some (sl (sl τ' 48 2 (lN (Sg (oF P t n k p) (2 ^ pH P) / Nat.gcd (12 ^ pH P) (Sg (oF P t n k p) (2 ^ pH P))))) 48 3 (lN (12 ^ pH P / Nat.gcd (12 ^ pH P) (Sg (oF P t n k p) (2 ^ pH P)))), ()) := by
  have h6 := hP.1
  have p64 : 2 ^ pH P ≤ 2 ^ 6 := Nat.pow_le_pow_right (by omega) h6
  have p12 : 12 ^ pH P ≤ 12 ^ 6 := Nat.pow_le_pow_right (by omega) h6
  have p0 : 0 < 12 ^ pH P := Nat.pow_pos (by omega)
  have sb : ∀ s, sS (wiP P t n) (woP P t n) s (pH P) ≤ 99 * pH P := fun s => sS_le (pH P) (fun h hh => ⟨itU_le (ht.2.1 h hh) n, itU_le (ht.2.1 h hh) n⟩)
  obtain ⟨τ', e1, e2, hA⟩ := lookAC hP hC ht tC hn
  have pC' := e2.plan hC
  refine ⟨τ', e2, ?_⟩
  unfold fX0_tellOdds
  rw [e1, cl_s, pv_s, lowC hP pC']
  have L := jloop (fun n' σ a i k2 => fX0_tellOdds_L44 (nI k) (nI p) (lN (12 ^ pH P)) n' σ a i (fun σ a i => k2 σ a i)) (2 ^ pH P) (fun i ρ b => ρ = τ' ∧ b = lN (Sg (oF P t n k p) i)) (fun σ20 v21 v22 => cl (fX0_tell σ20 v21 (lN (12 ^ pH P))) (fun σ23 r24 => some (σ23, ()))) (fun n' ρ b hI => by
      show fX0_tellOdds_L44 (nI k) (nI p) (lN (12 ^ pH P)) (n' + 1) ρ b (nI (2 ^ pH P)) _ = _
      rw [fX0_tellOdds_L44, hI.1, pC'.1, shl1 (by omega), if_pos (nI_le (by omega) (by omega))]) (fun n' ρ b i hi hI => by
      obtain ⟨q1, q2⟩ := hI
      rw [q1, q2]
      have si := sb i
      refine ⟨τ', lN (Sg (oF P t n k p) (i + 1)), ⟨rfl, rfl⟩, ?_⟩
      show fX0_tellOdds_L44 (nI k) (nI p) (lN (12 ^ pH P)) (n' + 1) τ' (lN (Sg (oF P t n k p) i)) (nI i) _ = fX0_tellOdds_L44 (nI k) (nI p) (lN (12 ^ pH P)) n' τ' (lN (Sg (oF P t n k p) i + oF P t n k p i)) (nI (i + 1)) _
      rw [fX0_tellOdds_L44, pC'.1, shl1 (by omega), if_neg (nI_ge hi (by omega)), ifC hP hA (by omega), cl_s, jn_s, nI_1]
      by_cases q : sS (wiP P t n) (woP P t n) i (pH P) < k
      · have eo : oF P t n k p i = 0 := if_pos q
        rw [eo, if_pos (nI_lt q (by omega))]
        rfl
      · have eo : oF P t n k p i = wS p i (pH P) := if_neg q
        rw [eo, if_neg (nI_nlt (by omega) (by omega)), pC'.1, weightC h6 hp (by omega), cl_s, lN_add]) (2 ^ pH P) 0 10000 τ' 0 (by omega) (by omega) ⟨rfl, rfl⟩
  obtain ⟨ρ, b, ⟨q1, q2⟩, e⟩ := L
  rw [q1, q2] at e
  refine e.trans ?_
  show cl (fX0_tell τ' _ _) _ = _
  rw [tellC τ' gb (by omega) p0]
  rfl
theorem midC {τ : St} {P : Pl} {t : Tw} (hP : PlanOk P) (hC : PlC τ P) (ht : TwOk P t) (tC : TwC τ P t) {n p : Nat} (hn : n < 1000) (hp : p ≤ 12) (gb : mS p (wiP P t n) (woP P t n) (pH P) < 2 ^ 62) : ∃ τ', eqQ τ τ' ∧ fX0_tellMean τ (nI n) (nI p) = some (sl (sl τ' 48 2 (lN (mS p (wiP P t n) (woP P t n) (pH P) / Nat.gcd 12 (mS p (wiP P t n) (woP P t n) (pH P))))) 48 3 (lN (12 / Nat.gcd 12 (mS p (wiP P t n) (woP P t n) (pH P)))), ()) := by
  have h6 := hP.1
  obtain ⟨τ', e1, e2, hA⟩ := lookAC hP hC ht tC hn
  have pC' := e2.plan hC
  have wb : ∀ h, h < pH P → wiP P t n h < 2 ^ 31 ∧ woP P t n h < 2 ^ 31 := fun h hh => by
    have a1 : wiP P t n h ≤ 99 := itU_le (ht.2.1 h hh) n
    have a2 : woP P t n h ≤ 99 := itU_le (ht.2.1 h hh) n
    omega
  refine ⟨τ', e2, ?_⟩
  unfold fX0_tellMean
  rw [e1, cl_s]
  have L := jloop (fun n' σ a i k2 => fX0_tellMean_L12 (nI p) n' σ a i (fun σ a i => k2 σ a i)) (pH P) (fun i ρ b => ρ = τ' ∧ b = lN (mS p (wiP P t n) (woP P t n) i)) (fun σ8 v9 v10 => cl (fX0_tell σ8 v9 12) (fun σ11 r12 => some (σ11, ()))) (fun n' ρ b hI => by
      show fX0_tellMean_L12 (nI p) (n' + 1) ρ b (nI (pH P)) _ = _
      rw [fX0_tellMean_L12, hI.1, pC'.1, if_pos (nI_le (by omega) (by omega))]) (fun n' ρ b i hi hI => by
      obtain ⟨q1, q2⟩ := hI
      rw [q1, q2]
      refine ⟨τ', lN (mS p (wiP P t n) (woP P t n) (i + 1)), ⟨rfl, rfl⟩, ?_⟩
      show fX0_tellMean_L12 (nI p) (n' + 1) τ' (lN (mS p (wiP P t n) (woP P t n) i)) (nI i) _ = fX0_tellMean_L12 (nI p) n' τ' (lN (mS p (wiP P t n) (woP P t n) i + (p * woP P t n i + (12 - p) * wiP P t n i))) (nI (i + 1)) _
      rw [fX0_tellMean_L12, pC'.1, if_neg (nI_ge hi (by omega)), rdC (show i < LC 50 by show i < 6; omega), rdC (show i < LC 49 by show i < 6; omega), (hA i hi).1, (hA i hi).2, (pL hp).1, (pL hp).2, nI_l (wb i hi).1, nI_l (wb i hi).2, lN_mul, lN_mul, lN_add, lN_add, nI_1]) (pH P) 0 10000 τ' 0 (by omega) (by omega) ⟨rfl, rfl⟩
  obtain ⟨ρ, b, ⟨q1, q2⟩, e⟩ := L
  rw [q1, q2] at e
  refine e.trans ?_
  show cl (fX0_tell τ' _ _) _ = _
  rw [show (12 : Int64) = lN 12 from rfl, tellC τ' gb (by omega) (by omega)]
  rfl
theorem out_c {x : Int32} {n : Nat} (hn : n < 2 ^ 31) (h : ¬ (((0 : Nat) : Int) ≤ x.toInt ∧ x.toInt ≤ (n : Nat))) : x < 0 ∨ nI n < x := by
  rw [i_lt, i_lt, nI_toInt hn]
  have e0 : (0 : Int32).toInt = 0 := rfl
  omega
theorem chC_n1 (τ : St) {x y : Int32} (h : x < 0 ∨ nI 20 < x) : fX10_isChance τ x y = some (τ, 0) := by
  unfold fX10_isChance
  by_cases w : x < 0
  · rw [if_pos w]
  · rw [if_neg w, if_pos (show (20 : Int32) < x from h.resolve_left w)]
theorem chC_n2 (τ : St) {n : Nat} {y : Int32} (hn : n ≤ 20) (h : y < 0 ∨ nI 12 < y) : fX10_isChance τ (nI n) y = some (τ, 0) := by
  unfold fX10_isChance
  rw [if_neg (nlt0 (by omega)), if_neg (show ¬ (20 : Int32) < nI n from nI_nlt (a := 20) hn (by omega))]
  by_cases w : y < 0
  · rw [if_pos w]
  · rw [if_neg w, if_pos (show (12 : Int32) < y from h.resolve_left w)]
theorem chC_y (τ : St) {n p : Nat} (hn : n ≤ 20) (hp : p ≤ 12) : fX10_isChance τ (nI n) (nI p) = some (τ, 1) := by
  unfold fX10_isChance
  rw [if_neg (nlt0 (by omega)), if_neg (show ¬ (20 : Int32) < nI n from nI_nlt (a := 20) hn (by omega)), if_neg (nlt0 (by omega)), if_neg (show ¬ (12 : Int32) < nI p from nI_nlt (a := 12) hp (by omega))]
theorem slTwo (τ : St) (k i j : Nat) (u l : Int64) (h : i ≠ j) : (sl (sl τ k i u) k j l).2 k i = u ∧ (sl (sl τ k i u) k j l).2 k j = l := by
  rw [sl_22, sl_22, sl_22, if_neg (by omega), if_pos ⟨rfl, rfl⟩, if_pos ⟨rfl, rfl⟩]
  exact ⟨rfl, rfl⟩
theorem Rel.part {τ σ τ' σ' : St} (h : Rel τ σ) (e : eqQ τ τ') (e' : eqB 11 σ σ') (u l : Int64) : Rel (sl (sl τ' 48 2 u) 48 3 l) (sl (sl σ' 0 18 u) 0 19 l) := by
  refine h.frL (fun k hk => e.1 k (by omega) (by omega)) (fun k _ _ c => e'.1 k c) (fun j _ => ?_) ?_ ?_
  · show σ'.1 0 j = σ.1 0 j
    rw [e'.1 0 (by omega)]
  · rw [(slTwo τ' 48 2 3 u l (by omega)).1, (slTwo σ' 0 18 19 u l (by omega)).1]
  · rw [(slTwo τ' 48 2 3 u l (by omega)).2, (slTwo σ' 0 18 19 u l (by omega)).2]
theorem s_odds (τ σ : St) (h : Rel τ σ) (a1 a2 a3 : Int32) : ∃ (τ' σ' : St) (r : Int32), fX10_odds τ a1 a2 a3 = some (τ', r) ∧ fX11_odds σ a1 a2 a3 = some (σ', r) ∧ Rel τ' σ' := by
  obtain ⟨P, t, hP, hC, hM, ht, tC, tM⟩ := h.view
  have h6 := hP.1
  unfold fX10_odds fX11_odds
  by_cases hk : ((0 : Nat) : Int) ≤ a1.toInt ∧ a1.toInt ≤ (600 : Nat)
  case neg =>
    rw [show fX11_in σ a1.toInt64 0 600 = some (σ, nI 0) from in_out σ (a := 0) (n := 600) (by omega) (by omega) hk, cl_s, if_pos (show nI 0 = (0 : Int32) from rfl)]
    by_cases w : a1 < 0
    · rw [if_pos w]
      exact ⟨_, _, _, rfl, rfl, h⟩
    · rw [if_neg w, if_pos (show (600 : Int32) < a1 from (out_c (n := 600) (by omega) hk).resolve_left w)]
      exact ⟨_, _, _, rfl, rfl, h⟩
  obtain ⟨k, _, k6, rfl⟩ := between hk (by omega)
  rw [show fX11_in σ (nI k).toInt64 0 600 = _ from in_yes σ (n := 600) k6 (by omega), cl_s, if_neg (show ¬ (1 : Int32) = 0 by decide), if_neg (nlt0 (by omega)), if_neg (show ¬ (600 : Int32) < nI k from nI_nlt (a := 600) k6 (by omega))]
  by_cases hn : ((0 : Nat) : Int) ≤ a2.toInt ∧ a2.toInt ≤ (20 : Nat)
  case neg =>
    rw [show fX11_in σ a2.toInt64 0 20 = some (σ, nI 0) from in_out σ (a := 0) (n := 20) (by omega) (by omega) hn, cl_s, if_pos (show nI 0 = (0 : Int32) from rfl), chC_n1 τ (out_c (n := 20) (by omega) hn), cl_s, if_pos rfl]
    exact ⟨_, _, _, rfl, rfl, h⟩
  obtain ⟨n, _, n2, rfl⟩ := between hn (by omega)
  rw [show fX11_in σ (nI n).toInt64 0 20 = _ from in_yes σ (n := 20) n2 (by omega), cl_s, if_neg (show ¬ (1 : Int32) = 0 by decide)]
  by_cases hp : ((0 : Nat) : Int) ≤ a3.toInt ∧ a3.toInt ≤ (12 : Nat)
  case neg =>
    rw [show fX11_in σ a3.toInt64 0 12 = some (σ, nI 0) from in_out σ (a := 0) (n := 12) (by omega) (by omega) hp, cl_s, if_pos (show nI 0 = (0 : Int32) from rfl), chC_n2 τ n2 (out_c (n := 12) (by omega) hp), cl_s, if_pos rfl]
    exact ⟨_, _, _, rfl, rfl, h⟩
  obtain ⟨p, _, p2, rfl⟩ := between hp (by omega)
  rw [show fX11_in σ (nI p).toInt64 0 12 = _ from in_yes σ (n := 12) p2 (by omega), cl_s, if_neg (show ¬ (1 : Int32) = 0 by decide), chC_y τ n2 p2, cl_s, if_neg (show ¬ (1 : Int32) = 0 by decide), hC.1, hM.1]
  by_cases z : pH P = 0
  · rw [z, if_pos (show nI 0 = (0 : Int32) from rfl), if_pos (show nI 0 = (0 : Int32) from rfl)]
    exact ⟨_, _, _, rfl, rfl, h⟩
  rw [if_neg (nI_ne0 (by omega) (by omega)), if_neg (nI_ne0 (by omega) (by omega))]
  have p64 : 2 ^ pH P ≤ 2 ^ 6 := Nat.pow_le_pow_right (by omega) h6
  have p12 : 12 ^ pH P ≤ 12 ^ 6 := Nat.pow_le_pow_right (by omega) h6
  have sb : ∀ s, sS (wiP P t n) (woP P t n) s (pH P) ≤ 99 * pH P := fun s => sS_le (pH P) (fun h hh => ⟨itU_le (ht.2.1 h hh) n, itU_le (ht.2.1 h hh) n⟩)
  have gb : Sg (oF P t n k p) (2 ^ pH P) < 2 ^ 62 := by
    have b := Sg_le (f := oF P t n k p) (B := 12 ^ 6) (fun s => by
      have w := wS_le (s := s) p2 (pH P)
      unfold oF
      split <;> omega) (2 ^ pH P)
    have b2 : 2 ^ pH P * 12 ^ 6 ≤ 2 ^ 6 * 12 ^ 6 := Nat.mul_le_mul_right _ p64
    omega
  obtain ⟨τ', e1, e2⟩ := oddsC hP hC ht tC k6 (show n < 1000 by omega) p2 gb
  obtain ⟨σ', e3, e4⟩ := weighsM hP hM ht tM (show n ≤ 60 by omega) p2 (nI k) (oF P t n k p) (fun s hs => by
    have si := sb s
    rw [if_pos (nle0 (by omega))]
    by_cases q : sS (wiP P t n) (woP P t n) s (pH P) < k
    · have eo : oF P t n k p s = 0 := if_pos q
      rw [eo, if_pos (nI_lt q (by omega))]
      rfl
    · have eo : oF P t n k p s = wS p s (pH P) := if_neg q
      rw [eo, if_neg (nI_nlt (by omega) (by omega))]) gb
  rw [e2, e4, cl_s, cl_s]
  exact ⟨_, _, _, rfl, rfl, h.part e1 e3 _ _⟩
theorem s_mid (τ σ : St) (h : Rel τ σ) (a2 a3 : Int32) : ∃ (τ' σ' : St) (r : Int32), fX10_mid τ a2 a3 = some (τ', r) ∧ fX11_mid σ a2 a3 = some (σ', r) ∧ Rel τ' σ' := by
  obtain ⟨P, t, hP, hC, hM, ht, tC, tM⟩ := h.view
  have h6 := hP.1
  unfold fX10_mid fX11_mid
  by_cases hn : ((0 : Nat) : Int) ≤ a2.toInt ∧ a2.toInt ≤ (20 : Nat)
  case neg =>
    rw [show fX11_in σ a2.toInt64 0 20 = some (σ, nI 0) from in_out σ (a := 0) (n := 20) (by omega) (by omega) hn, cl_s, if_pos (show nI 0 = (0 : Int32) from rfl), chC_n1 τ (out_c (n := 20) (by omega) hn), cl_s, if_pos rfl]
    exact ⟨_, _, _, rfl, rfl, h⟩
  obtain ⟨n, _, n2, rfl⟩ := between hn (by omega)
  rw [show fX11_in σ (nI n).toInt64 0 20 = _ from in_yes σ (n := 20) n2 (by omega), cl_s, if_neg (show ¬ (1 : Int32) = 0 by decide)]
  by_cases hp : ((0 : Nat) : Int) ≤ a3.toInt ∧ a3.toInt ≤ (12 : Nat)
  case neg =>
    rw [show fX11_in σ a3.toInt64 0 12 = some (σ, nI 0) from in_out σ (a := 0) (n := 12) (by omega) (by omega) hp, cl_s, if_pos (show nI 0 = (0 : Int32) from rfl), chC_n2 τ n2 (out_c (n := 12) (by omega) hp), cl_s, if_pos rfl]
    exact ⟨_, _, _, rfl, rfl, h⟩
  obtain ⟨p, _, p2, rfl⟩ := between hp (by omega)
  rw [show fX11_in σ (nI p).toInt64 0 12 = _ from in_yes σ (n := 12) p2 (by omega), cl_s, if_neg (show ¬ (1 : Int32) = 0 by decide), chC_y τ n2 p2, cl_s, if_neg (show ¬ (1 : Int32) = 0 by decide), hC.1, hM.1]
  by_cases z : pH P = 0
  · rw [z, if_pos (show nI 0 = (0 : Int32) from rfl), if_pos (show nI 0 = (0 : Int32) from rfl)]
    exact ⟨_, _, _, rfl, rfl, h⟩
  rw [if_neg (nI_ne0 (by omega) (by omega)), if_neg (nI_ne0 (by omega) (by omega))]
  have p64 : 2 ^ pH P ≤ 2 ^ 6 := Nat.pow_le_pow_right (by omega) h6
  have p12 : 12 ^ pH P ≤ 12 ^ 6 := Nat.pow_le_pow_right (by omega) h6
  have sb : ∀ s, sS (wiP P t n) (woP P t n) s (pH P) ≤ 99 * pH P := fun s => sS_le (pH P) (fun h hh => ⟨itU_le (ht.2.1 h hh) n, itU_le (ht.2.1 h hh) n⟩)
  have gb : Sg (fun s => wS p s (pH P) * sS (wiP P t n) (woP P t n) s (pH P)) (2 ^ pH P) ≤ 2 ^ 6 * (12 ^ 6 * 594) := by
    have b := Sg_le (f := fun s => wS p s (pH P) * sS (wiP P t n) (woP P t n) s (pH P)) (B := 12 ^ 6 * 594) (fun s => by
      have w := wS_le (s := s) p2 (pH P)
      have si := sb s
      exact Nat.mul_le_mul (show wS p s (pH P) ≤ 12 ^ 6 by omega) (show sS (wiP P t n) (woP P t n) s (pH P) ≤ 594 by omega)) (2 ^ pH P)
    have b2 : 2 ^ pH P * (12 ^ 6 * 594) ≤ 2 ^ 6 * (12 ^ 6 * 594) := Nat.mul_le_mul_right _ p64
    exact Nat.le_trans b b2
  have me := mean_eq p2 (wiP P t n) (woP P t n) (pH P)
  have mb : mS p (wiP P t n) (woP P t n) (pH P) < 2 ^ 62 := by
    have q0 : 1 ≤ 12 ^ pH P := Nat.pow_pos (by omega)
    have q1 : 1 * mS p (wiP P t n) (woP P t n) (pH P) ≤ 12 ^ pH P * mS p (wiP P t n) (woP P t n) (pH P) := Nat.mul_le_mul_right _ q0
    omega
  obtain ⟨τ', e1, e2⟩ := midC hP hC ht tC (show n < 1000 by omega) p2 mb
  obtain ⟨σ', e3, e4⟩ := weighsM hP hM ht tM (show n ≤ 60 by omega) p2 (-9) (fun s => wS p s (pH P) * sS (wiP P t n) (woP P t n) s (pH P)) (fun s hs => by
    have si := sb s
    rw [if_neg (show ¬ (0 : Int32) ≤ -9 by decide), nI_l (by omega), lN_mul]) (by omega)
  have pz : 12 ^ pH P = 12 * 12 ^ (pH P - 1) := by
    have := Nat.pow_succ (n := 12) (m := pH P - 1)
    rw [show (pH P - 1).succ = pH P by omega] at this
    omega
  have pT : 1 ≤ 12 ^ (pH P - 1) := Nat.pow_pos (by omega)
  have eE : Sg (fun s => wS p s (pH P) * sS (wiP P t n) (woP P t n) s (pH P)) (2 ^ pH P) = 12 ^ (pH P - 1) * mS p (wiP P t n) (woP P t n) (pH P) := by
    rw [pz, Nat.mul_assoc] at me
    omega
  obtain ⟨f1, f2⟩ := frac_eq pT eE
  rw [← pz] at f1 f2
  rw [e2, e4, cl_s, cl_s, f1, f2]
  exact ⟨_, _, _, rfl, rfl, h.part e1 e3 _ _⟩
