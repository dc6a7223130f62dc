/-! steps: undo, keep, on -/
theorem RO.upd {τ σ τ' σ' : St} {P : Pl} {ds ds' : Nat → Nat} {n m : Nat} (h : RO τ σ P ds n) (cC : ∀ k, k ≠ 24 → k ≠ 25 → k ≠ 33 → k ≠ 34 → k ≠ 35 → τ'.1 k = τ.1 k) (cC2 : τ'.2 = τ.2) (cM : ∀ k, k ≠ 0 → k ≠ 10 → k ≠ 12 → σ'.1 k = σ.1 k) (c0 : ∀ j, j ≠ 14 → σ'.1 0 j = σ.1 0 j) (cM2 : σ'.2 = σ.2) (h0 : pH P = 0 → m = 0) (hd : DdOk P ds' m) (tC : TwC τ' P (rep P ds' m)) (tM : TwM (σ'.1 10) (rep P ds' m)) (hDd : Dd τ' σ' P ds' m) : RO τ' σ' P ds' m := by
  obtain ⟨h1, h2, h3, hP, _, hC, hM, _, _, _, _, hK⟩ := h
  refine ⟨?_, h2.fr (fun k a b => cC k (by omega) (by omega) (by omega) (by omega) (by omega)) (fun k a b => cM k (by omega) (by omega) (by omega)), h3.fr (fun k a b => cC k (by omega) (by omega) (by omega) (by omega) (by omega)) (fun k a b => cM k (by omega) (by omega) (by omega)), hP, h0, ?_, ?_, hd, tC, tM, hDd, ?_⟩
  · unfold RS
    rw [cC 0 (by omega) (by omega) (by omega) (by omega) (by omega), cC 51 (by omega) (by omega) (by omega) (by omega) (by omega), c0 17 (by omega), c0 20 (by omega), cM 15 (by omega) (by omega) (by omega), cC2, cM2]
    exact h1
  · unfold PlC
    rw [cC 26 (by omega) (by omega) (by omega) (by omega) (by omega), cC 31 (by omega) (by omega) (by omega) (by omega) (by omega), cC 32 (by omega) (by omega) (by omega) (by omega) (by omega), cC 29 (by omega) (by omega) (by omega) (by omega) (by omega), cC 30 (by omega) (by omega) (by omega) (by omega) (by omega), cC 28 (by omega) (by omega) (by omega) (by omega) (by omega), cC 27 (by omega) (by omega) (by omega) (by omega) (by omega)]
    exact hC
  · unfold PlM
    rw [c0 4 (by omega), c0 7 (by omega), cM 5 (by omega) (by omega) (by omega), cM 6 (by omega) (by omega) (by omega), cM 7 (by omega) (by omega) (by omega), cM 8 (by omega) (by omega) (by omega), cM 9 (by omega) (by omega) (by omega)]
    exact hM
  · intro k hk
    rw [cC 40 (by omega) (by omega) (by omega) (by omega) (by omega), cM 14 (by omega) (by omega) (by omega), cC (37 + k) (by omega) (by omega) (by omega) (by omega) (by omega), cM 13 (by omega) (by omega) (by omega)]
    exact hK k hk
theorem s_undo (τ σ : St) (h : Rel τ σ) (a1 : Int32) : ∃ (τ' σ' : St) (r : Int32), fX10_undo τ a1 = some (τ', r) ∧ fX11_undo σ a1 = some (σ', r) ∧ Rel τ' σ' := by
  obtain ⟨P, ds, n, ho⟩ := h.ro
  obtain ⟨hP, hC, hM⟩ := ho.plan
  obtain ⟨ht, tC, tM⟩ := ho.twn
  obtain ⟨n40, n1, n2⟩ := ho.n40
  have hd : DdOk P ds n := ho.2.2.2.2.2.2.2.1
  obtain ⟨d1, d2, d3, d4⟩ := ho.2.2.2.2.2.2.2.2.2.2.1
  unfold fX10_undo fX11_undo
  rw [n1, n2]
  by_cases hr : ((0 : Nat) : Int) ≤ a1.toInt ∧ a1.toInt ≤ (n : Nat)
  case neg =>
    rw [show fX11_in σ a1.toInt64 0 (nI n).toInt64 = some (σ, nI 0) from in_out σ (a := 0) (n := n) (by omega) (by omega) hr, cl_s, if_pos (show nI 0 = (0 : Int32) from rfl)]
    by_cases w : a1 < 0
    · rw [if_pos w]
      exact ⟨_, _, _, rfl, rfl, h⟩
    · rw [if_neg w, if_neg (fun q => hr (by rw [i_lt] at w; rw [i_le, nI_toInt (by omega)] at q; have e1 : (0 : Int32).toInt = 0 := rfl; omega))]
      exact ⟨_, _, _, rfl, rfl, h⟩
  obtain ⟨m, _, mn, rfl⟩ := between hr (by omega)
  rw [in_yes σ mn (by omega), cl_s, if_neg (show ¬ (1 : Int32) = 0 by decide), if_neg (nlt0 (by omega)), if_pos (nI_le mn (by omega)), jn_s, n2, pk_sub mn]
  have hd' : DdOk P ds m := ⟨by omega, fun i hi => hd.2 i (by omega)⟩
  obtain ⟨τ', e1, e2, e3⟩ := cutC hP hC hd' (fun i hi => d3 i (by omega))
  rw [e1, cl_s]
  have h0 : pH P = 0 → m = 0 := fun q => by have := ho.2.2.2.2.1 q; omega
  have cC : ∀ k, k ≠ 24 → k ≠ 25 → k ≠ 33 → k ≠ 34 → k ≠ 35 → τ'.1 k = τ.1 k := fun k a b c d _ => by rw [e2.1 k b c d, su_o a]
  by_cases z : m = n
  · rw [if_pos (show nI (n - m) ≤ (0 : Int32) by rw [show n - m = 0 by omega]; decide)]
    refine ⟨_, _, _, rfl, rfl, RO.rel (P := P) (ds := ds) (n := m) ?_⟩
    refine ho.upd cC e2.2 (fun k a _ _ => su_o a) (fun j hj => by rw [su_11, if_neg (by omega)]) rfl h0 hd' e3 ?_ ⟨?_, ?_, fun i hi => ?_, fun i j hi hj => ?_⟩
    · rw [su_o (by omega), z]
      exact tM
    · rw [e2.1 24 (by omega) (by omega) (by omega), su_11, if_pos ⟨rfl, rfl⟩]
    · rw [su_11, if_pos ⟨rfl, rfl⟩]
    · rw [e2.1 35 (by omega) (by omega) (by omega), su_o (by omega)]
      exact d3 i (by omega)
    · rw [su_o (by omega)]
      exact d4 i j (by omega) hj
  · rw [if_neg (show ¬ nI (n - m) ≤ (0 : Int32) from nI_nle (by omega) (by omega)), L_55, L_0, pk_mul, copiesM (by omega) (show 55 * m + 55 ≤ 2200 by omega) (by decide) (by omega), cl_s]
    refine ⟨_, _, _, rfl, rfl, RO.rel (P := P) (ds := ds) (n := m) ?_⟩
    refine ho.upd cC e2.2 (fun k a b _ => by rw [su_o a, sc_o b]) (fun j hj => by rw [su_11, if_neg (by omega), sc_o (by omega)]) rfl h0 hd' e3 ?_ ⟨?_, ?_, fun i hi => ?_, fun i j hi hj => ?_⟩
    · intro j hj
      rw [su_o (by omega), sc_11, if_pos rfl, if_pos (by omega), Nat.sub_zero]
      exact d4 m j (by omega) hj
    · rw [e2.1 24 (by omega) (by omega) (by omega), su_11, if_pos ⟨rfl, rfl⟩]
    · rw [su_11, if_pos ⟨rfl, rfl⟩]
    · rw [e2.1 35 (by omega) (by omega) (by omega), su_o (by omega)]
      exact d3 i (by omega)
    · rw [su_o (by omega), sc_o (by omega)]
      exact d4 i j (by omega) hj
theorem isShelf_y (τ : St) {j : Nat} (h : j < 3) : fX3_isShelf τ (nI j) = some (τ, 1) := by
  unfold fX3_isShelf
  rw [if_neg (nlt0 (by omega)), if_neg (show ¬ (3 : Int32) ≤ nI j from nI_ge (b := 3) h (by omega))]
theorem isShelf_n (τ : St) {x : Int32} (h : x < 0 ∨ nI 3 ≤ x) : fX3_isShelf τ x = some (τ, 0) := by
  unfold fX3_isShelf
  by_cases q : x < 0
  · rw [if_pos q]
  · rw [if_neg q, if_pos (show (3 : Int32) ≤ x from h.resolve_left q)]
theorem isPlace_y (σ : St) {j : Nat} (h : j < 3) : fX11_isPlace σ (nI j) = some (σ, 1) := by
  unfold fX11_isPlace
  rw [show fX11_in σ (nI j).toInt64 0 2 = some (σ, 1) from in_yes σ (n := 2) (by omega) (by omega), cl_s]
  rfl
theorem isPlace_n (σ : St) {x : Int32} (h : x < 0 ∨ nI 3 ≤ x) : fX11_isPlace σ x = some (σ, 0) := by
  unfold fX11_isPlace
  rw [show fX11_in σ x.toInt64 0 2 = some (σ, 0) from in_no σ (n := 2) (by omega) h, cl_s]
  rfl
theorem LC_shelf {j : Nat} (h : j < 3) : LC (37 + j) = 40 := by
  match j, h with
  | 0, _ => rfl
  | 1, _ => rfl
  | 2, _ => rfl
theorem arr0 {k k2 n : Nat} (h1 : LC k = 40) (h2 : LC k2 = 40) (hn : n ≤ 40) : arrOk LC k k2 0 0 (nI n) = true := by
  unfold arrOk
  rw [nI_clamp (by omega), h1, h2]
  simp only [Bool.and_eq_true, decide_eq_true_eq]
  exact ⟨⟨⟨⟨⟨⟨by decide, by decide⟩, nI_pos (by omega)⟩, by omega⟩, by omega⟩, by show 0 + n ≤ 40; omega⟩, by show 0 + n ≤ 40; omega⟩
theorem s_keep (τ σ : St) (h : Rel τ σ) (a1 : Int32) : ∃ (τ' σ' : St) (r : Int32), fX10_keep τ a1 = some (τ', r) ∧ fX11_keep σ a1 = some (σ', r) ∧ Rel τ' σ' := by
  obtain ⟨P, ds, n, ho⟩ := h.ro
  obtain ⟨hP, hC, hM⟩ := ho.plan
  obtain ⟨ht, tC, tM⟩ := ho.twn
  obtain ⟨n40, n1, n2⟩ := ho.n40
  unfold fX10_keep fX11_keep
  rcases ix_cases a1 3 (by omega) with ⟨s, hs, rfl⟩ | hbad
  case inr =>
    rw [isShelf_n τ hbad, isPlace_n σ hbad]
    exact ⟨_, _, _, rfl, rfl, h⟩
  rw [isShelf_y τ hs, isPlace_y σ hs]
  simp only [cl_s, o10, if_false]
  have h6 := hP.1
  rw [hC.1, hM.1]
  by_cases z : pH P = 0
  · rw [if_pos (show nI (pH P) = 0 by rw [z]; rfl), if_pos (show nI (pH P) = 0 by rw [z]; rfl)]
    exact ⟨_, _, _, rfl, rfl, h⟩
  rw [if_neg (nI_ne0 (by omega) (by omega)), if_neg (nI_ne0 (by omega) (by omega))]
  unfold fX3_shelve
  rw [gd_inb hs (by omega), nI_clamp (by omega), n1, gd_t (arr0 (by rfl) (LC_shelf hs) n40), nI_clamp (by omega), pt_s, wrC (show s < LC 40 by show s < 3; omega), cl_s, sc_o (by omega), n1]
  rw [L_55, L_0, L_2256, pk_mul, copiesM (by omega) (show 0 + 55 ≤ LM 10 by decide) (show 2256 * s + 55 ≤ 6768 by omega) (by omega), cl_s, nI_add, wrM (show 2256 * s + 55 < 6768 by omega), nI_1, L_2200, copiesM (by omega) (show 0 + 2200 ≤ LM 12 by decide) (show 2256 * s + 55 + 1 + 2200 ≤ 6768 by omega) (by omega), cl_s, gd_inb hs (by omega), nI_clamp (by omega), pt_s, sc_o (by omega), n2]
  generalize hτ : su (sc τ (37 + s) (va_cpy (τ.1 35) (τ.1 (37 + s)) 0 0 n)) 40 s (nI n) = τ'
  generalize hσ1 : sc σ 13 (fun q => if 2256 * s ≤ q ∧ q < 2256 * s + 55 then σ.1 10 (0 + (q - 2256 * s)) else σ.1 13 q) = σ1
  generalize hσ2 : su σ1 13 (2256 * s + 55) (nI n) = σ2
  generalize hσ3 : sc σ2 13 (fun q => if 2256 * s + 55 + 1 ≤ q ∧ q < 2256 * s + 55 + 1 + 2200 then σ2.1 12 (0 + (q - (2256 * s + 55 + 1))) else σ2.1 13 q) = σ3
  have cC : ∀ k, k ≠ 37 + s → k ≠ 40 → τ'.1 k = τ.1 k := fun k a b => by rw [← hτ, su_o b, sc_o a]
  have cM3 : ∀ k, k ≠ 13 → σ3.1 k = σ.1 k := fun k a => by rw [← hσ3, sc_o a, ← hσ2, su_o a, ← hσ1, sc_o a]
  have cM : ∀ k, k ≠ 13 → k ≠ 14 → (su σ3 14 s 1).1 k = σ.1 k := fun k a b => by rw [su_o b, cM3 k a]
  have c13 : ∀ q, (su σ3 14 s 1).1 13 q = if 2256 * s + 56 ≤ q ∧ q < 2256 * s + 2256 then σ.1 12 (q - (2256 * s + 56)) else if q = 2256 * s + 55 then nI n else if 2256 * s ≤ q ∧ q < 2256 * s + 55 then σ.1 10 (q - 2256 * s) else σ.1 13 q := fun q => by
    rw [su_o (by omega), ← hσ3, sc_11, if_pos rfl, ← hσ2, su_o (by omega), su_11, ← hσ1, sc_o (by omega), sc_11, if_pos rfl]
    by_cases a1 : 2256 * s + 56 ≤ q ∧ q < 2256 * s + 2256
    · rw [if_pos (by omega), if_pos a1, Nat.zero_add]
    · rw [if_neg (by omega), if_neg a1]
      by_cases a2 : q = 2256 * s + 55
      · rw [if_pos ⟨rfl, a2⟩, if_pos a2]
      · rw [if_neg (fun w => a2 w.2), if_neg a2, Nat.zero_add]
  obtain ⟨h1, h2, h3, _, h0, _, _, hd, _, _, ⟨d1, d2, d3, d4⟩, hK⟩ := ho
  rw [show τ'.1 24 4 = nI n by rw [cC 24 (by omega) (by omega), n1], show (su σ3 14 s 1).1 0 14 = nI n by rw [cM 0 (by omega) (by omega), n2]]
  refine ⟨_, _, _, rfl, rfl, ?_⟩
  refine ⟨?_, h2.fr (fun k a b => cC k (by omega) (by omega)) (fun k a b => cM k (by omega) (by omega)), h3.fr (fun k a b => cC k (by omega) (by omega)) (fun k a b => cM k (by omega) (by omega)), P, ds, n, hP, h0, ?_, ?_, hd, ?_, ?_, ?_, ?_⟩
  · unfold RS
    rw [cC 0 (by omega) (by omega), cC 51 (by omega) (by omega), cM 0 (by omega) (by omega), cM 15 (by omega) (by omega), show τ'.2 = τ.2 by rw [← hτ]; rfl, show (su σ3 14 s 1).2 = σ.2 by rw [← hσ3, ← hσ2, ← hσ1]; rfl]
    exact h1
  · unfold PlC
    rw [cC 26 (by omega) (by omega), cC 31 (by omega) (by omega), cC 32 (by omega) (by omega), cC 29 (by omega) (by omega), cC 30 (by omega) (by omega), cC 28 (by omega) (by omega), cC 27 (by omega) (by omega)]
    exact hC
  · unfold PlM
    rw [cM 0 (by omega) (by omega), cM 5 (by omega) (by omega), cM 6 (by omega) (by omega), cM 7 (by omega) (by omega), cM 8 (by omega) (by omega), cM 9 (by omega) (by omega)]
    exact hM
  · unfold TwC
    rw [cC 25 (by omega) (by omega), cC 33 (by omega) (by omega), cC 34 (by omega) (by omega)]
    exact tC
  · rw [cM 10 (by omega) (by omega)]
    exact tM
  · unfold Dd
    rw [cC 24 (by omega) (by omega), cC 35 (by omega) (by omega), cM 0 (by omega) (by omega), cM 12 (by omega) (by omega)]
    exact ⟨d1, d2, d3, d4⟩
  · intro k hk
    by_cases e : k = s
    · refine Or.inr ⟨z, n, ds, hd, ?_, ?_, fun i hi => ?_, ?_, fun j hj => ?_, fun i j hi hj => ?_⟩
      · rw [← hτ, su_11, if_pos ⟨rfl, e⟩]
      · rw [su_11, if_pos ⟨rfl, e⟩]
      · rw [← hτ, su_o (by omega), sc_11, if_pos (by omega), pk_cpy_in (by omega) (by omega), show 0 + (i - 0) = i by omega]
        exact d3 i hi
      · rw [c13, if_neg (by omega), if_pos (by omega)]
      · rw [c13, if_neg (by omega), if_neg (by omega), if_pos (by omega), e, Nat.add_sub_cancel_left]
        exact tM j hj
      · rw [c13, if_pos (by omega), e, Nat.add_sub_cancel_left]
        exact d4 i j hi hj
    · have e40 : τ'.1 40 k = τ.1 40 k := by rw [← hτ, su_11, if_neg (fun w => e w.2), sc_o (by omega)]
      have e14 : (su σ3 14 s 1).1 14 k = σ.1 14 k := by rw [su_11, if_neg (fun w => e w.2), cM3 14 (by omega)]
      have e13 : ∀ q, q < 2256 → (su σ3 14 s 1).1 13 (2256 * k + q) = σ.1 13 (2256 * k + q) := fun q hq => by
        rw [c13, if_neg (by omega), if_neg (by omega), if_neg (by omega)]
      rcases hK k hk with w | ⟨w1, m, dk, w2, w3, w4, w5, w6, w7, w8⟩
      · exact Or.inl (by rw [e40, e14]; exact w)
      · have m40 := w2.1
        refine Or.inr ⟨w1, m, dk, w2, by rw [e40]; exact w3, by rw [e14]; exact w4, fun i hi => by rw [cC (37 + k) (by omega) (by omega)]; exact w5 i hi, by rw [e13 55 (by omega)]; exact w6, fun j hj => by rw [e13 j (by omega)]; exact w7 j hj, fun i j hi hj => ?_⟩
        rw [Nat.add_assoc, e13 (56 + (55 * i + j)) (by omega), ← Nat.add_assoc]
        exact w8 i j hi hj
theorem s_on (τ σ : St) (h : Rel τ σ) (a1 : Int32) : ∃ (τ' σ' : St) (r : Int32), fX10_on τ a1 = some (τ', r) ∧ fX11_on σ a1 = some (σ', r) ∧ Rel τ' σ' := by
  obtain ⟨P, ds, n, ho⟩ := h.ro
  obtain ⟨hP, hC, hM⟩ := ho.plan
  have hK : Kp τ σ P := ho.2.2.2.2.2.2.2.2.2.2.2
  unfold fX10_on fX11_on
  rcases ix_cases a1 3 (by omega) with ⟨s, hs, rfl⟩ | hbad
  case inr =>
    rw [isShelf_n τ hbad, isPlace_n σ hbad]
    exact ⟨_, _, _, rfl, rfl, h⟩
  rw [isShelf_y τ hs, isPlace_y σ hs]
  simp only [cl_s, o10, if_false]
  rw [gd_inb hs (by omega), nI_clamp (by omega)]
  unfold fX3_shelved
  rw [rdC (show s < LC 40 by show s < 3; omega), cl_s]
  rcases hK s hs with ⟨w1, w2⟩ | ⟨w1, m, dk, w2, w3, w4, w5, w6, w7, w8⟩
  · rw [w1, w2, if_neg (show ¬ (0 : Int32) ≤ -1 by decide), if_pos rfl, L_1, refu_ev τ (by omega), fnd_ev σ (by omega)]
    exact ⟨_, _, _, rfl, rfl, h.found (by omega)⟩
  have m40 := w2.1
  rw [w3, w4, if_pos (nle0 (by omega)), if_neg (show ¬ (1 : Int32) = 0 by decide)]
  unfold fX3_takeBack
  rw [gd_inb hs (by omega), nI_clamp (by omega), rdC (show s < LC 40 by show s < 3; omega), w3, gd_t (arr0 (LC_shelf hs) (by rfl) m40), pt_s, nI_clamp (by omega), rdC (show s < LC 40 by show s < 3; omega), sc_o (by omega), w3]
  generalize hτ : sc τ 35 (va_cpy (τ.1 (37 + s)) (τ.1 35) (Int32.toNatClampNeg 0) (Int32.toNatClampNeg 0) m) = τ1
  have c1 : ∀ k, k ≠ 35 → τ1.1 k = τ.1 k := fun k a => by rw [← hτ, sc_o a]
  have hC1 : PlC τ1 P := by
    unfold PlC
    rw [c1 26 (by omega), c1 31 (by omega), c1 32 (by omega), c1 29 (by omega), c1 30 (by omega), c1 28 (by omega), c1 27 (by omega)]
    exact hC
  have c35 : ∀ i, i < m → τ1.1 35 i = nI (dk i) := fun i hi => by
    rw [← hτ, sc_11, if_pos rfl, show Int32.toNatClampNeg 0 = 0 from rfl, pk_cpy_in (by omega) (by omega), show 0 + (i - 0) = i by omega]
    exact w5 i hi
  obtain ⟨τ', e1, e2, e3⟩ := cutC hP hC1 w2 c35
  rw [e1, cl_s, cl_s]
  rw [L_55, L_0, L_2256, pk_mul, copiesM (by omega) (show 2256 * s + 55 ≤ 6768 by omega) (show 0 + 55 ≤ LM 10 by decide) (by omega), cl_s, nI_add, rdM (show 2256 * s + 55 < 6768 by omega), sc_o (by omega), w6, pt_s, nI_1, L_2200, copiesM (by omega) (show 2256 * s + 55 + 1 + 2200 ≤ 6768 by omega) (show 0 + 2200 ≤ LM 12 by decide) (by omega), cl_s]
  generalize hσ1 : sc σ 10 (fun q => if 0 ≤ q ∧ q < 0 + 55 then σ.1 13 (2256 * s + (q - 0)) else σ.1 10 q) = σ1
  generalize hσ2 : su σ1 0 14 (nI m) = σ2
  generalize hσ3 : sc σ2 12 (fun q => if 0 ≤ q ∧ q < 0 + 2200 then σ2.1 13 (2256 * s + 55 + 1 + (q - 0)) else σ2.1 12 q) = σ3
  have cM : ∀ k, k ≠ 0 → k ≠ 10 → k ≠ 12 → σ3.1 k = σ.1 k := fun k a b c => by rw [← hσ3, sc_o c, ← hσ2, su_o a, ← hσ1, sc_o b]
  have c0 : ∀ j, j ≠ 14 → σ3.1 0 j = σ.1 0 j := fun j hj => by rw [← hσ3, sc_o (by omega), ← hσ2, su_11, if_neg (by omega), ← hσ1, sc_o (by omega)]
  have c14 : σ3.1 0 14 = nI m := by rw [← hσ3, sc_o (by omega), ← hσ2, su_11, if_pos ⟨rfl, rfl⟩]
  have s24 : τ'.1 24 4 = nI m := by rw [e2.1 24 (by omega) (by omega) (by omega), su_11, if_pos ⟨rfl, rfl⟩]
  rw [c14, s24]
  refine ⟨_, _, _, rfl, rfl, RO.rel (P := P) (ds := dk) (n := m) ?_⟩
  refine ho.upd (ds' := dk) (m := m) (fun k a b c d e => by rw [e2.1 k b c d, su_o a, c1 k e]) (by rw [e2.2, ← hτ]; rfl) cM c0 (by rw [← hσ3, ← hσ2, ← hσ1]; rfl) (fun q => absurd q w1) w2 e3 (fun j hj => ?_) ⟨s24, c14, fun i hi => ?_, fun i j hi hj => ?_⟩
  · rw [← hσ3, sc_o (by omega), ← hσ2, su_o (by omega), ← hσ1, sc_11, if_pos rfl, if_pos (by omega), Nat.sub_zero]
    exact w7 j hj
  · rw [e2.1 35 (by omega) (by omega) (by omega), su_o (by omega)]
    exact c35 i hi
  · rw [← hσ3, sc_11, if_pos rfl, if_pos (by omega), Nat.sub_zero, ← hσ2, su_o (by omega), ← hσ1, sc_o (by omega), show 2256 * s + 55 + 1 = 2256 * s + 56 by omega]
    exact w8 i j hi hj
