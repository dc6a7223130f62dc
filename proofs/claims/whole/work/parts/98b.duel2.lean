/-! duel: the reference's side; the step -/
def eqD (σ ρ : St) : Prop := (∀ k, k ≠ 0 → k ≠ 23 → k ≠ 24 → ρ.1 k = σ.1 k) ∧ (∀ j, j ≠ 30 → ρ.1 0 j = σ.1 0 j) ∧ ρ.2 = σ.2
theorem eqD.rf (σ : St) : eqD σ σ := ⟨fun _ _ _ _ => rfl, fun _ _ => rfl, rfl⟩
theorem eqD.trans {a b c : St} (h : eqD a b) (g : eqD b c) : eqD a c := ⟨fun k x y z => (g.1 k x y z).trans (h.1 k x y z), fun j x => (g.2.1 j x).trans (h.2.1 j x), g.2.2.trans h.2.2⟩
theorem eqD.w {σ : St} {k i : Nat} {v : Int32} (h : k = 23 ∨ k = 24) : eqD σ (su σ k i v) := ⟨fun j a b c => su_o (by omega), fun j _ => by rw [su_11, if_neg (by omega)], rfl⟩
theorem eqD.plan {σ ρ : St} (h : eqD σ ρ) {P : Pl} (hM : PlM σ P) : PlM ρ P := by
  unfold PlM
  rw [h.2.1 4 (by omega), h.2.1 7 (by omega), h.1 5 (by omega) (by omega) (by omega), h.1 6 (by omega) (by omega) (by omega), h.1 7 (by omega) (by omega) (by omega), h.1 8 (by omega) (by omega) (by omega), h.1 9 (by omega) (by omega) (by omega)]
  exact hM
theorem eqD.tw {σ ρ : St} (h : eqD σ ρ) {t : Tw} (tM : TwM (σ.1 10) t) : TwM (ρ.1 10) t := by
  rw [h.1 10 (by omega) (by omega) (by omega)]
  exact tM
theorem allGetM {σ : St} {P : Pl} {t : Tw} (hP : PlanOk P) (hM : PlM σ P) (ht : TwOk P t) (tM : TwM (σ.1 10) t) {u : Nat → Nat} (hu : ∀ h, h < pH P → u h ≤ 99 ∧ σ.1 23 h = nI (u h)) : ∃ ρ, eqD σ ρ ∧ ρ.1 24 = σ.1 24 ∧ fX11_allGet σ 23 = some (ρ, nI (sG (Gn P t) u (pH P))) := by
  have h6 := hP.1
  unfold fX11_allGet
  have L := jloop (fun n' σ a i k2 => fX11_allGet_L4 23 n' σ a i (fun σ a i => k2 σ a i)) (pH P) (fun i ρ b => (eqD σ ρ ∧ ρ.1 23 = σ.1 23 ∧ ρ.1 24 = σ.1 24) ∧ b = nI (sG (Gn P t) u i)) (fun σ9 v10 v11 => some (σ9, v10)) (fun n' ρ b hI => by
      show fX11_allGet_L4 23 (n' + 1) ρ b (nI (pH P)) _ = _
      rw [fX11_allGet_L4, (hI.1.1.plan hM).1, if_pos (nI_le (by omega) (by omega))]) (fun n' ρ b i hi hI => by
      obtain ⟨⟨q1, q2, q3⟩, q4⟩ := hI
      rw [q4]
      have pM := q1.plan hM
      have hv := hu i hi
      have sh := shopsM hP pM ht (q1.tw tM) hi (show 1 < 4 by omega) (show u i < 1000 by omega)
      have gd : popF (bk P t i 1 (u i) (pC P)).2.2 = Gn P t i (u i) := rfl
      refine ⟨su ρ 0 30 (nI (bk P t i 1 (u i) (pC P)).2.1), nI (sG (Gn P t) u i + Gn P t i (u i)), ⟨⟨q1.trans ⟨fun k a _ _ => su_o a, fun j hj => by rw [su_11, if_neg (by omega)], rfl⟩, ?_, ?_⟩, rfl⟩, ?_⟩
      · rw [su_o (by omega), q2]
      · rw [su_o (by omega), q3]
      · show fX11_allGet_L4 23 (n' + 1) ρ (nI (sG (Gn P t) u i)) (nI i) _ = fX11_allGet_L4 23 n' _ (nI (sG (Gn P t) u i + Gn P t i (u i))) (nI (i + 1)) _
        rw [fX11_allGet_L4, pM.1, if_neg (nI_ge hi (by omega)), rdM (show i < LM 23 by show i < 6; omega), q2, hv.2, show fX11_shops ρ (nI i) (nI (u i)) 1 = _ from sh, cl_s, bitsM _ (bk_256 hP i 1 _), cl_s, gd, nI_add, nI_1]) (pH P) 0 10000 σ 0 (by omega) (by omega) ⟨⟨eqD.rf σ, rfl, rfl⟩, rfl⟩
  obtain ⟨ρ, b, ⟨⟨q1, q2, q3⟩, q4⟩, e⟩ := L
  rw [q4] at e
  exact ⟨ρ, q1, q3, e⟩
def Uc (H : Nat) (u : Nat → Nat) : Nat → Nat → Nat → Nat
  | 0, _ => u
  | k + 1, c => act H (k % 2 == 0) (c % (H + 1)) (Uc H u k (c / (H + 1)))
theorem Uc_le {H : Nat} {u : Nat → Nat} (hu : ∀ h, h < H → u h ≤ 99) : ∀ k c h, h < H → Uc H u k c h ≤ 99
  | 0, _, h, hh => hu h hh
  | k + 1, c, h, hh => act_le hh (fun x hx => Uc_le hu k _ x hx)
theorem Uc_go {H : Nat} {u : Nat → Nat} {k c e : Nat} (he : e < H + 1) : Uc H u (k + 1) ((H + 1) * c + e) = act H (k % 2 == 0) e (Uc H u k c) := by
  show act H (k % 2 == 0) (((H + 1) * c + e) % (H + 1)) (Uc H u k (((H + 1) * c + e) / (H + 1))) = _
  rw [Nat.mul_add_mod, Nat.mod_eq_of_lt he, Nat.mul_add_div (by omega), Nat.div_eq_of_lt he, Nat.add_zero]
theorem pow_b {B n : Nat} (hB : B ≤ 7) (h0 : 1 ≤ B) (hn : n ≤ 3) : B ^ n ≤ 343 ∧ 1 ≤ B ^ n := by
  have a : B ^ n ≤ 7 ^ n := Nat.pow_le_pow_left hB n
  have b : 7 ^ n ≤ 7 ^ 3 := Nat.pow_le_pow_right (by omega) hn
  have c : 0 < B ^ n := Nat.pow_pos h0
  omega
theorem byM (σ : St) {B n : Nat} (hn : n ≤ 3) (p1 : Int32) (kk : St → Int32 → Int32 → Option (St × Int32)) : fX11_comesBy_L21 p1 (nI n) (nI B) 10000 σ 1 1 kk = kk σ (nI (B ^ (n - 1))) (nI (max n 1)) := by
  have L : ∀ (m i f : Nat), i + 1 + m = max n 1 → m < f → fX11_comesBy_L21 p1 (nI n) (nI B) f σ (nI (B ^ i)) (nI (i + 1)) kk = kk σ (nI (B ^ (n - 1))) (nI (max n 1)) := by
    intro m
    induction m with
    | zero =>
      intro i f hi hf
      match f, hf with
      | f + 1, _ => rw [fX11_comesBy_L21, if_pos (nI_le (by omega) (by omega)), show i + 1 = max n 1 by omega, show i = n - 1 by omega]
    | succ m ih =>
      intro i f hi hf
      match f, hf with
      | f + 1, hf =>
        rw [fX11_comesBy_L21, if_neg (nI_ge (by omega) (by omega)), pk_mul, nI_1]
        exact ih (i + 1) f (by omega) (by omega)
  exact L (max n 1 - 1) 0 10000 (by omega) (by omega)
theorem pow_dn {B i : Nat} (hB : 1 ≤ B) : B ^ (i + 1) / B = B ^ i := by
  rw [Nat.pow_succ, Nat.mul_div_cancel _ hB]
def cbB (p1 p2 p3 : Int32) (n : Nat) (k : St → Int32 → Int32 → Option (St × Int32)) (σ9 : St) (d v11 y13 : Int32) : Option (St × Int32) := if (σ9.1 0 4) ≤ d then fX11_comesBy_L42 p1 p2 p3 n σ9 y13 (v11 + 1) k else (if (v11 - v11 / 2 * 2) = 0 then rd LM σ9 23 d (fun x22 => cl (fX11_less σ9 99 (x22 + 1)) (fun σ23 r24 => wr LM σ23 23 d r24 (fun σ19 => fX11_comesBy_L42 p1 p2 p3 n σ19 y13 (v11 + 1) k))) else rd LM σ9 23 d (fun x20 => (if x20 ≤ 0 then wr LM σ9 23 d 0 (fun σ19 => fX11_comesBy_L42 p1 p2 p3 n σ19 y13 (v11 + 1) k) else rd LM σ9 23 d (fun x21 => wr LM σ9 23 d (x21 - 1) (fun σ19 => fX11_comesBy_L42 p1 p2 p3 n σ19 y13 (v11 + 1) k)))))
theorem cb_eq (p1 p2 p3 : Int32) (n : Nat) (k : St → Int32 → Int32 → Option (St × Int32)) (σ9 : St) (v10 v11 : Int32) : fX11_comesBy_L42 p1 p2 p3 (n + 1) σ9 v10 v11 k = (if p2 ≤ v11 then k σ9 v10 v11 else gd (decide (¬ v10 = 0)) (gd (decide (¬ p3 = 0)) (if (p2 - 1) ≤ v11 then cbB p1 p2 p3 n k σ9 ((p1 / v10) - (p1 / v10) / p3 * p3) v11 1 else gd (decide (¬ p3 = 0)) (cbB p1 p2 p3 n k σ9 ((p1 / v10) - (p1 / v10) / p3 * p3) v11 (v10 / p3))))) := by
  rw [fX11_comesBy_L42]
  rfl
theorem comesM {σ : St} {P : Pl} {t : Tw} (hP : PlanOk P) (hM : PlM σ P) (ht : TwOk P t) (tM : TwM (σ.1 10) t) {n c : Nat} (hn : n ≤ 3) (hc : c < (pH P + 1) ^ n) : ∃ ρ, eqD σ ρ ∧ ρ.1 24 = σ.1 24 ∧ fX11_comesBy σ (nI c) (nI n) (nI (pH P + 1)) = some (ρ, nI (sG (Gn P t) (Uc (pH P) (u0 t) n c) (pH P))) := by
  have h6 := hP.1
  have hu0 : ∀ h, h < pH P → u0 t h ≤ 99 := fun h hh => ht.2.1 h hh
  have c343 := (pow_b (show pH P + 1 ≤ 7 by omega) (by omega) hn).1
  unfold fX11_comesBy
  have cp := copiesM (σ := σ) (a := 10) (b := 23) (i := 1) (j := 0) (n := 6) (by omega) (by show 1 + 6 ≤ 55; omega) (by show 0 + 6 ≤ 6; omega) (by omega)
  rw [show fX11_copies σ 10 1 23 0 6 = _ from cp, cl_s]
  obtain ⟨σ1, e1⟩ : ∃ x, x = sc σ 23 (fun q => if 0 ≤ q ∧ q < 0 + 6 then σ.1 10 (1 + (q - 0)) else σ.1 23 q) := ⟨_, rfl⟩
  rw [← e1, byM σ1 hn]
  have d1 : eqD σ σ1 := by
    rw [e1]
    exact ⟨fun k a b c => sc_o b, fun j _ => by rw [sc_11, if_neg (by omega)], rfl⟩
  have d24 : σ1.1 24 = σ.1 24 := by
    rw [e1]
    exact sc_o (by omega)
  have d23 : ∀ h, h < pH P → σ1.1 23 h = nI (u0 t h) := fun h hh => by
    rw [e1, sc_s, if_pos (by omega), Nat.sub_zero]
    exact tM (1 + h) (by omega)
  have L := jloop (fun n' σ a i k2 => fX11_comesBy_L42 (nI c) (nI n) (nI (pH P + 1)) n' σ a i (fun σ a i => k2 σ a i)) n (fun j ρ b => (eqD σ ρ ∧ ρ.1 24 = σ.1 24 ∧ ∀ h, h < pH P → ρ.1 23 h = nI (Uc (pH P) (u0 t) j (c / (pH P + 1) ^ (n - j)) h)) ∧ b = nI ((pH P + 1) ^ (n - 1 - j))) (fun σ25 v26 v27 => cl (fX11_allGet σ25 23) (fun σ28 r29 => some (σ28, r29))) (fun n' ρ b hI => by
      show fX11_comesBy_L42 (nI c) (nI n) (nI (pH P + 1)) (n' + 1) ρ b (nI n) _ = _
      rw [fX11_comesBy_L42, if_pos (nI_le (by omega) (by omega))]) (fun n' ρ b j hj hI => by
      obtain ⟨⟨q1, q2, q3⟩, q4⟩ := hI
      rw [q4]
      have pM := q1.plan hM
      obtain ⟨i, hi⟩ : ∃ i, i = n - 1 - j := ⟨_, rfl⟩
      have pb := pow_b (show pH P + 1 ≤ 7 by omega) (by omega) (show i ≤ 3 by omega)
      have eD : c / (pH P + 1) ^ (n - j) = c / (pH P + 1) ^ i / (pH P + 1) := by
        rw [Nat.div_div_eq_div_mul, ← Nat.pow_succ, show i.succ = n - j by omega]
      rw [eD] at q3
      rw [← hi]
      obtain ⟨D, hD⟩ : ∃ D, D = c / (pH P + 1) ^ i := ⟨_, rfl⟩
      rw [← hD] at q3
      have Dc : D ≤ c := by rw [hD]; exact Nat.div_le_self _ _
      have dB : D % (pH P + 1) < pH P + 1 := Nat.mod_lt _ (by omega)
      have eU : Uc (pH P) (u0 t) (j + 1) D = act (pH P) (j % 2 == 0) (D % (pH P + 1)) (Uc (pH P) (u0 t) j (D / (pH P + 1))) := rfl
      have ul := fun h (hh : h < pH P) => Uc_le hu0 j (D / (pH P + 1)) h hh
      revert q3 eU ul
      generalize Uc (pH P) (u0 t) j (D / (pH P + 1)) = u
      intro q3 eU ul
      have nb : nI c / nI ((pH P + 1) ^ i) = nI D := by rw [hD]; exact pk_div (by omega) (by omega) (by omega)
      have nd : nI D - nI D / nI (pH P + 1) * nI (pH P + 1) = nI (D % (pH P + 1)) := pk_rem (by omega) (by omega) (by omega)
      have g1 : decide (¬ nI ((pH P + 1) ^ i) = 0) = true := decide_eq_true (nI_ne0 (by omega) (by omega))
      have g2 : decide (¬ nI (pH P + 1) = 0) = true := decide_eq_true (nI_ne0 (by omega) (by omega))
      have nx : ∀ (kk : St → Int32 → Int32 → Option (St × Int32)) (d : Int32), (if (nI n - 1) ≤ nI j then cbB (nI c) (nI n) (nI (pH P + 1)) n' kk ρ d (nI j) 1 else gd (decide (¬ nI (pH P + 1) = 0)) (cbB (nI c) (nI n) (nI (pH P + 1)) n' kk ρ d (nI j) (nI ((pH P + 1) ^ i) / nI (pH P + 1)))) = cbB (nI c) (nI n) (nI (pH P + 1)) n' kk ρ d (nI j) (nI ((pH P + 1) ^ (n - 1 - (j + 1)))) := fun kk d => by
        have en : nI n - 1 = nI (n - 1) := by
          have := nI_pred (n - 1)
          rw [show n - 1 + 1 = n by omega] at this
          exact this
        rw [en]
        by_cases z : n - 1 ≤ j
        · rw [if_pos (nI_le z (by omega)), show n - 1 - (j + 1) = 0 by omega]
          rfl
        · rw [if_neg (nI_ge (by omega) (by omega)), gd_t g2, pk_div (by omega) (by omega) (by omega), show i = n - 1 - (j + 1) + 1 by omega, pow_dn (by omega)]
      have fin : ∀ ρ1, eqD σ ρ1 → ρ1.1 24 = σ.1 24 → (∀ h, h < pH P → ρ1.1 23 h = nI (Uc (pH P) (u0 t) (j + 1) D h)) → (eqD σ ρ1 ∧ ρ1.1 24 = σ.1 24 ∧ ∀ h, h < pH P → ρ1.1 23 h = nI (Uc (pH P) (u0 t) (j + 1) (c / (pH P + 1) ^ (n - (j + 1))) h)) ∧ nI ((pH P + 1) ^ (n - 1 - (j + 1))) = nI ((pH P + 1) ^ (n - 1 - (j + 1))) := fun ρ1 a b d => by
        rw [show n - (j + 1) = i by omega, ← hD]
        exact ⟨⟨a, b, d⟩, rfl⟩
      by_cases z : D % (pH P + 1) < pH P
      · have hx := ul _ z
        obtain ⟨w, hw⟩ : ∃ w, w = act (pH P) (j % 2 == 0) (D % (pH P + 1)) u (D % (pH P + 1)) := ⟨_, rfl⟩
        refine ⟨su ρ 23 (D % (pH P + 1)) (nI w), _, fin _ (q1.trans (eqD.w (Or.inl rfl))) ((su_o (by omega)).trans q2) (fun h hh => ?_), ?_⟩
        · rw [eU, su_11]
          by_cases y : h = D % (pH P + 1)
          · rw [if_pos ⟨rfl, y⟩, hw, y]
          · rw [if_neg (by omega), q3 h hh]
            unfold act
            rw [if_neg (by omega)]
        · show fX11_comesBy_L42 (nI c) (nI n) (nI (pH P + 1)) (n' + 1) ρ (nI ((pH P + 1) ^ i)) (nI j) _ = fX11_comesBy_L42 (nI c) (nI n) (nI (pH P + 1)) n' _ _ (nI (j + 1)) _
          rw [cb_eq, if_neg (nI_ge hj (by omega)), gd_t g1, gd_t g2, nb, nd, nx]
          unfold cbB
          rw [pM.1, if_neg (nI_ge z (by omega)), rdM (show D % (pH P + 1) < LM 23 by show _ < 6; omega), rdM (show D % (pH P + 1) < LM 23 by show _ < 6; omega), q3 _ z, show (2 : Int32) = nI 2 from rfl, pk_rem (by omega) (by omega) (by omega), nI_1, nI_1]
          unfold act at hw
          rw [if_pos ⟨rfl, z⟩] at hw
          by_cases y : j % 2 = 0
          · rw [if_pos (by rw [y]; rfl)]
            rw [show (j % 2 == 0) = true by rw [y]; rfl, if_pos rfl] at hw
            rw [show (99 : Int32) = nI 99 from rfl, lessM ρ (by omega), cl_s, wrM (show D % (pH P + 1) < LM 23 by show _ < 6; omega), hw]
          · rw [if_neg (show ¬ nI (j % 2) = 0 from nI_ne0 (by omega) (by omega))]
            rw [show (j % 2 == 0) = false from beq_eq_false_iff_ne.mpr y, if_neg (by decide)] at hw
            by_cases v : u (D % (pH P + 1)) = 0
            · rw [v, if_pos (show nI 0 ≤ (0 : Int32) by decide), wrM (show D % (pH P + 1) < LM 23 by show _ < 6; omega), hw, v]
              rfl
            · rw [if_neg (nI_nle (by omega) (by omega)), rdM (show D % (pH P + 1) < LM 23 by show _ < 6; omega), q3 _ z, wrM (show D % (pH P + 1) < LM 23 by show _ < 6; omega), show nI (u (D % (pH P + 1))) - 1 = nI (u (D % (pH P + 1)) - 1) from pk_sub (b := 1) (by omega), hw]
      · refine ⟨ρ, _, fin ρ q1 q2 (fun h hh => ?_), ?_⟩
        · rw [eU, act_no z, q3 h hh]
        · show fX11_comesBy_L42 (nI c) (nI n) (nI (pH P + 1)) (n' + 1) ρ (nI ((pH P + 1) ^ i)) (nI j) _ = fX11_comesBy_L42 (nI c) (nI n) (nI (pH P + 1)) n' _ _ (nI (j + 1)) _
          rw [cb_eq, if_neg (nI_ge hj (by omega)), gd_t g1, gd_t g2, nb, nd, nx]
          unfold cbB
          rw [pM.1, if_pos (nI_le (by omega) (by omega)), nI_1]) n 0 10000 σ1 (nI ((pH P + 1) ^ (n - 1))) (by omega) (by omega) ⟨⟨d1, d24, d23⟩, rfl⟩
  obtain ⟨ρ, b, ⟨⟨q1, q2, q3⟩, -⟩, e⟩ := L
  rw [Nat.sub_self, Nat.pow_zero, Nat.div_one] at q3
  obtain ⟨ρ1, a1, a2, a3⟩ := allGetM hP (q1.plan hM) ht (q1.tw tM) (u := Uc (pH P) (u0 t) n c) (fun h hh => ⟨Uc_le hu0 n c h hh, q3 h hh⟩)
  refine ⟨ρ1, q1.trans a1, a2.trans q2, ?_⟩
  refine Eq.trans e ?_
  show cl (fX11_allGet ρ 23) _ = _
  rw [a3]
  rfl
theorem opG_I {g : Bool} {a x : Nat} (ha : a < 2 ^ 31) (hx : x < 2 ^ 31) : (if bI g = (if nI x ≤ nI a then (0 : Int32) else 1) then nI x else nI a) = nI (opG g a x) := by
  unfold opG
  by_cases q : x ≤ a
  · rw [if_pos (nI_le q ha), if_pos q, if_pos q]
    cases g
    · rw [if_pos (show bI false = 0 from rfl)]
      rfl
    · rw [if_neg (show ¬ bI true = 0 by decide)]
      rfl
  · rw [if_neg (nI_ge (by omega) hx), if_neg q, if_neg q]
    cases g
    · rw [if_neg (show ¬ bI false = 1 by decide)]
      rfl
    · rw [if_pos (show bI true = 1 from rfl)]
      rfl
theorem foldM {σ : St} {H c : Nat} {g : Bool} {f : Nat → Nat} (hb : (H + 1) * c + H < 343) (hf : ∀ e, e ≤ H → f e ≤ 48 ∧ σ.1 24 ((H + 1) * c + e) = nI (f e)) {v : Int32} (hv : (if (v - v / 2 * 2) = 0 then (1 : Int32) else 0) = bI g) (w20 : Int32) (kk : St → Int32 → Int32 → Option (St × Int32)) : fX11_duel_L119 (nI (H + 1)) w20 v (nI c) 10000 σ (nI (f 0)) 1 kk = kk σ (nI (bst g f H)) (nI (H + 1)) := by
  have bb : ∀ e, e ≤ H → bst g f e ≤ 48 := fun e he => by
    obtain ⟨-, x, hx, q⟩ := bst_p g f e
    rw [q]
    exact (hf x (by omega)).1
  have H343 : H < 343 := by
    have := Nat.zero_le ((H + 1) * c)
    omega
  have L : ∀ (m i f' : Nat), i + m = H → m < f' → fX11_duel_L119 (nI (H + 1)) w20 v (nI c) f' σ (nI (bst g f i)) (nI (i + 1)) kk = kk σ (nI (bst g f H)) (nI (H + 1)) := by
    intro m
    induction m with
    | zero =>
      intro i f' hi hf'
      match f', hf' with
      | f' + 1, _ => rw [fX11_duel_L119, if_pos (nI_le (by omega) (by omega)), show i = H by omega]
    | succ m ih =>
      intro i f' hi hf'
      match f', hf' with
      | f' + 1, hf' =>
        have b1 := bb i (by omega)
        have b2 := hf (i + 1) (by omega)
        rw [fX11_duel_L119, if_neg (nI_ge (by omega) (by omega)), pk_mul, nI_add, rdM (show (H + 1) * c + (i + 1) < LM 24 by show _ < 343; omega), b2.2, pv_s, pv_s, pv_s, hv, opG_I (by omega) (by omega), nI_1]
        exact ih (i + 1) f' (by omega) (by omega)
  exact L H 0 10000 (by omega) (by omega)
theorem evenI {k : Nat} (hk : k < 2 ^ 31) : (if (nI k - nI k / 2 * 2) = 0 then (1 : Int32) else 0) = bI (k % 2 == 0) := by
  rw [show (2 : Int32) = nI 2 from rfl, pk_rem hk (by omega) (by omega)]
  by_cases y : k % 2 = 0
  · rw [y, if_pos (show nI 0 = (0 : Int32) from rfl)]
    rfl
  · rw [if_neg (nI_ne0 (by omega) (by omega)), show (k % 2 == 0) = false from beq_eq_false_iff_ne.mpr y]
    rfl
theorem par_s (k : Nat) : ((k + 1) % 2 == 0) = !(k % 2 == 0) := by
  by_cases y : k % 2 = 0
  · rw [show (k % 2 == 0) = true by rw [y]; rfl]
    exact beq_eq_false_iff_ne.mpr (by omega)
  · rw [show (k % 2 == 0) = false from beq_eq_false_iff_ne.mpr y, show (k + 1) % 2 = 0 by omega]
    rfl
abbrev wo (P : Pl) (t : Tw) (n k c : Nat) : Nat := val (Gn P t) (pH P) (n - k) (k % 2 == 0) (Uc (pH P) (u0 t) k c)
theorem levelM {σ : St} {P : Pl} {t : Tw} (hP : PlanOk P) {n k : Nat} (hn : n ≤ 3) (hk : k < n) (hw : ∀ c, c < (pH P + 1) ^ (k + 1) → σ.1 24 c = nI (wo P t n (k + 1) c)) (kk : St → Int32 → Option (St × Int32)) : ∃ ρ, eqD σ ρ ∧ (∀ c, c < (pH P + 1) ^ k → ρ.1 24 c = nI (wo P t n k c)) ∧ fX11_duel_L99 (nI (pH P + 1)) (nI ((pH P + 1) ^ k)) (nI k) 10000 σ 0 kk = kk ρ (nI ((pH P + 1) ^ k)) := by
  have h6 := hP.1
  have pb := pow_b (show pH P + 1 ≤ 7 by omega) (by omega) (show k ≤ 3 by omega)
  have pb1 := pow_b (show pH P + 1 ≤ 7 by omega) (by omega) (show k + 1 ≤ 3 by omega)
  have ps : (pH P + 1) ^ (k + 1) = (pH P + 1) * (pH P + 1) ^ k := by rw [Nat.pow_succ, Nat.mul_comm]
  have L := iloop (fun n' σ i kq => fX11_duel_L99 (nI (pH P + 1)) (nI ((pH P + 1) ^ k)) (nI k) n' σ i kq) ((pH P + 1) ^ k) (fun c ρ => eqD σ ρ ∧ (∀ i, i < c → ρ.1 24 i = nI (wo P t n k i)) ∧ ∀ i, (pH P + 1) * c ≤ i → i < (pH P + 1) ^ (k + 1) → ρ.1 24 i = nI (wo P t n (k + 1) i)) kk (fun n' ρ hI => by
      show fX11_duel_L99 (nI (pH P + 1)) (nI ((pH P + 1) ^ k)) (nI k) (n' + 1) ρ (nI ((pH P + 1) ^ k)) kk = _
      rw [fX11_duel_L99, if_pos (nI_le (by omega) (by omega))]) (fun n' ρ c hc hI => by
      obtain ⟨q1, q2, q3⟩ := hI
      have m1 : (pH P + 1) * (c + 1) ≤ (pH P + 1) * (pH P + 1) ^ k := Nat.mul_le_mul_left _ hc
      have m2 : (pH P + 1) * (c + 1) = (pH P + 1) * c + (pH P + 1) := Nat.mul_succ _ _
      have m3 : 1 * c ≤ (pH P + 1) * c := Nat.mul_le_mul_right _ (by omega)
      obtain ⟨f, hf⟩ : ∃ f : Nat → Nat, f = fun e => wo P t n (k + 1) ((pH P + 1) * c + e) := ⟨_, rfl⟩
      have ff : ∀ e, e ≤ pH P → f e ≤ 48 ∧ ρ.1 24 ((pH P + 1) * c + e) = nI (f e) := fun e he => by
        rw [hf]
        refine ⟨?_, q3 _ (by omega) (by omega)⟩
        have := val_le (Gn_le P t) (pH P) (n - (k + 1)) ((k + 1) % 2 == 0) (Uc (pH P) (u0 t) (k + 1) ((pH P + 1) * c + e))
        exact Nat.le_trans this (show 8 * pH P ≤ 48 by omega)
      have bE : bst (k % 2 == 0) f (pH P) = wo P t n k c := by
        show _ = val (Gn P t) (pH P) (n - k) (k % 2 == 0) (Uc (pH P) (u0 t) k c)
        rw [show n - k = n - (k + 1) + 1 by omega]
        refine bst_congr (pH P) (fun e he => ?_)
        rw [hf]
        show val (Gn P t) (pH P) (n - (k + 1)) ((k + 1) % 2 == 0) (Uc (pH P) (u0 t) (k + 1) ((pH P + 1) * c + e)) = val (Gn P t) (pH P) (n - (k + 1)) (!(k % 2 == 0)) (act (pH P) (k % 2 == 0) e (Uc (pH P) (u0 t) k c))
        rw [Uc_go (by omega), par_s]
      refine ⟨su ρ 24 c (nI (wo P t n k c)), ⟨q1.trans (eqD.w (Or.inr rfl)), fun i hi => ?_, fun i h1 h2 => ?_⟩, ?_⟩
      · rw [su_11]
        by_cases z : i = c
        · rw [if_pos ⟨rfl, z⟩, z]
        · rw [if_neg (by omega)]
          exact q2 i (by omega)
      · rw [su_11, if_neg (by omega)]
        exact q3 i (by omega) h2
      · show fX11_duel_L99 (nI (pH P + 1)) (nI ((pH P + 1) ^ k)) (nI k) (n' + 1) ρ (nI c) kk = fX11_duel_L99 (nI (pH P + 1)) (nI ((pH P + 1) ^ k)) (nI k) n' _ (nI (c + 1)) kk
        have f0 := (ff 0 (by omega)).2
        rw [Nat.add_zero] at f0
        rw [fX11_duel_L99, if_neg (nI_ge hc (by omega)), pk_mul, rdM (show (pH P + 1) * c < LM 24 by show _ < 343; omega), f0, foldM (by omega) ff (evenI (by omega)), wrM (show c < LM 24 by show _ < 343; omega), bE, nI_1]) ((pH P + 1) ^ k) 0 10000 σ (by omega) (by omega) ⟨eqD.rf σ, fun i hi => absurd hi (by omega), fun i _ h2 => hw i h2⟩
  obtain ⟨ρ, ⟨q1, q2, -⟩, e⟩ := L
  exact ⟨ρ, q1, q2, e⟩
theorem levelsM {σ : St} {P : Pl} {t : Tw} (hP : PlanOk P) {n : Nat} (hn : n ≤ 3) : ∀ (k f : Nat) (ρ : St), k ≤ n → k < f → eqD σ ρ → (∀ c, c < (pH P + 1) ^ k → ρ.1 24 c = nI (wo P t n k c)) → ∃ ρ', eqD σ ρ' ∧ fX11_duel_L87 (nI (pH P + 1)) f ρ (nI ((pH P + 1) ^ k)) (nI k - 1) (fun σ40 v41 v42 => rd LM σ40 24 0 (fun x43 => some (σ40, x43))) = some (ρ', nI (wo P t n 0 0)) := by
  have h6 := hP.1
  intro k
  induction k with
  | zero =>
    intro f ρ hk hf q1 q2
    match f, hf with
    | f + 1, _ =>
      refine ⟨ρ, q1, ?_⟩
      rw [fX11_duel_L87, if_pos (show nI 0 - 1 < (0 : Int32) by decide), show (0 : Int32) = nI 0 from rfl, rdM (show 0 < LM 24 by show 0 < 343; omega), q2 0 (by rw [Nat.pow_zero]; omega)]
  | succ k ih =>
    intro f ρ hk hf q1 q2
    match f, hf with
    | f + 1, hf =>
      have pb := pow_b (show pH P + 1 ≤ 7 by omega) (by omega) (show k + 1 ≤ 3 by omega)
      obtain ⟨ρ1, r1, r2, r3⟩ := levelM hP hn (show k < n by omega) q2 (fun σ38 v39 => fX11_duel_L87 (nI (pH P + 1)) f σ38 (nI ((pH P + 1) ^ k)) (nI k + (-1)) (fun σ40 v41 v42 => rd LM σ40 24 0 (fun x43 => some (σ40, x43))))
      obtain ⟨ρ2, s1, s2⟩ := ih f ρ1 (by omega) (by omega) (q1.trans r1) r2
      refine ⟨ρ2, s1, ?_⟩
      rw [fX11_duel_L87, nI_pred, if_neg (nlt0 (by omega)), gd_t (decide_eq_true (nI_ne0 (by omega) (by omega))), pv_s, pk_div (by omega) (by omega) (by omega), pow_dn (by omega)]
      refine r3.trans ?_
      show fX11_duel_L87 _ f ρ1 _ (nI k + (-1)) _ = _
      rw [← Int32.sub_eq_add_neg]
      exact s2
theorem manyM2 (σ : St) {B n : Nat} (hn : n ≤ 3) (kk : St → Int32 → Int32 → Option (St × Int32)) : fX11_duel_L36 (nI n) (nI B) 10000 σ 1 0 kk = kk σ (nI (B ^ n)) (nI n) := by
  have L : ∀ (m i f : Nat), i + m = n → m < f → fX11_duel_L36 (nI n) (nI B) f σ (nI (B ^ i)) (nI i) kk = kk σ (nI (B ^ n)) (nI n) := by
    intro m
    induction m with
    | zero =>
      intro i f hi hf
      match f, hf with
      | f + 1, _ => rw [fX11_duel_L36, if_pos (nI_le (by omega) (by omega)), show i = n by omega]
    | succ m ih =>
      intro i f hi hf
      match f, hf with
      | f + 1, hf =>
        rw [fX11_duel_L36, if_neg (nI_ge (by omega) (by omega)), pk_mul, nI_1]
        exact ih (i + 1) f (by omega) (by omega)
  exact L n 0 10000 (by omega) (by omega)
theorem codesM {σ : St} {P : Pl} {t : Tw} (hP : PlanOk P) (hM : PlM σ P) (ht : TwOk P t) (tM : TwM (σ.1 10) t) {n : Nat} (hn : n ≤ 3) (kk : St → Int32 → Option (St × Int32)) : ∃ ρ, eqD σ ρ ∧ (∀ c, c < (pH P + 1) ^ n → ρ.1 24 c = nI (wo P t n n c)) ∧ fX11_duel_L55 (nI n) (nI (pH P + 1)) (nI ((pH P + 1) ^ n)) 10000 σ 0 kk = kk ρ (nI ((pH P + 1) ^ n)) := by
  have h6 := hP.1
  have pb := pow_b (show pH P + 1 ≤ 7 by omega) (by omega) hn
  have L := iloop (fun n' σ i k => fX11_duel_L55 (nI n) (nI (pH P + 1)) (nI ((pH P + 1) ^ n)) n' σ i k) ((pH P + 1) ^ n) (fun c ρ => eqD σ ρ ∧ ∀ i, i < c → ρ.1 24 i = nI (wo P t n n i)) kk (fun n' ρ hI => by
      show fX11_duel_L55 (nI n) (nI (pH P + 1)) (nI ((pH P + 1) ^ n)) (n' + 1) ρ (nI ((pH P + 1) ^ n)) kk = _
      rw [fX11_duel_L55, if_pos (nI_le (by omega) (by omega))]) (fun n' ρ c hc hI => by
      obtain ⟨q1, q2⟩ := hI
      obtain ⟨ρ1, a1, a2, a3⟩ := comesM hP (q1.plan hM) ht (q1.tw tM) hn hc
      have ev : sG (Gn P t) (Uc (pH P) (u0 t) n c) (pH P) = wo P t n n c := by
        show _ = val (Gn P t) (pH P) (n - n) (n % 2 == 0) (Uc (pH P) (u0 t) n c)
        rw [Nat.sub_self]
        rfl
      refine ⟨su ρ1 24 c (nI (wo P t n n c)), ⟨(q1.trans a1).trans (eqD.w (Or.inr rfl)), fun i hi => ?_⟩, ?_⟩
      · rw [su_11]
        by_cases z : i = c
        · rw [if_pos ⟨rfl, z⟩, z]
        · rw [if_neg (by omega), a2]
          exact q2 i (by omega)
      · show fX11_duel_L55 (nI n) (nI (pH P + 1)) (nI ((pH P + 1) ^ n)) (n' + 1) ρ (nI c) kk = fX11_duel_L55 (nI n) (nI (pH P + 1)) (nI ((pH P + 1) ^ n)) n' _ (nI (c + 1)) kk
        rw [fX11_duel_L55, if_neg (nI_ge hc (by omega)), a3, cl_s, wrM (show c < LM 24 by show _ < 343; omega), ev, nI_1]) ((pH P + 1) ^ n) 0 10000 σ (by omega) (by omega) ⟨eqD.rf σ, fun i hi => absurd hi (by omega)⟩
  obtain ⟨ρ, ⟨q1, q2⟩, e⟩ := L
  exact ⟨ρ, q1, q2, e⟩
theorem s_duel (τ σ : St) (h : Rel τ σ) (a1 : Int32) : ∃ (τ' σ' : St) (r : Int32), fX10_duel τ a1 = some (τ', r) ∧ fX11_duel σ a1 = some (σ', r) ∧ Rel τ' σ' := by
  obtain ⟨P, t, hP, hC, hM, ht, tC, tM⟩ := h.view
  have h6 := hP.1
  unfold fX10_duel fX11_duel
  by_cases hr : ((0 : Nat) : Int) ≤ a1.toInt ∧ a1.toInt ≤ (3 : Nat)
  case neg =>
    rw [in_out3 σ hr, cl_s, if_pos (show nI 0 = (0 : Int32) from rfl)]
    by_cases w : a1 < 0
    · rw [if_pos w]
      exact ⟨_, _, _, rfl, rfl, h⟩
    · rw [if_neg w, if_neg (fun q => hr (by rw [i_lt] at w; rw [i_le] at q; have e1 : (0 : Int32).toInt = 0 := rfl; have e9 : (3 : Int32).toInt = 3 := rfl; omega))]
      exact ⟨_, _, _, rfl, rfl, h⟩
  obtain ⟨n, _, n3, rfl⟩ := between hr (by omega)
  rw [in_yes3 σ n3, cl_s, if_neg (show ¬ (1 : Int32) = 0 by decide), if_neg (nlt0 (by omega)), if_pos (show nI n ≤ (3 : Int32) from nI_le (b := 3) n3 (by omega)), hC.1, hM.1]
  by_cases z : pH P = 0
  · rw [z, if_pos (show nI 0 = (0 : Int32) from rfl), if_pos (show nI 0 = (0 : Int32) from rfl)]
    exact ⟨_, _, _, rfl, rfl, h⟩
  rw [if_neg (nI_ne0 (by omega) (by omega)), if_neg (nI_ne0 (by omega) (by omega)), pv_s, nI_1, manyM2 σ n3]
  obtain ⟨τ', e1, e2⟩ := duelC hP hC ht tC n3
  obtain ⟨ρ, r1, r2, r3⟩ := codesM hP hM ht tM n3 (fun σ15 v16 => fX11_duel_L87 (nI (pH P + 1)) 10000 σ15 (nI ((pH P + 1) ^ n)) (nI n - 1) (fun σ40 v41 v42 => rd LM σ40 24 0 (fun x43 => some (σ40, x43))))
  obtain ⟨ρ', s1, s2⟩ := levelsM (σ := σ) hP n3 n 10000 ρ (Nat.le_refl n) (by omega) r1 r2
  rw [e2, cl_s]
  refine ⟨τ', ρ', _, rfl, r3.trans s2, h.fr (fun k hk => e1.1 k (by omega)) e1.2 (fun k a b c => s1.1 k (by omega) (by omega) (by omega)) (fun j hj => s1.2.1 j (by omega)) s1.2.2⟩
