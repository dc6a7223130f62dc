/-! deeds done, cut, noted -/
theorem beginC {τ : St} {P : Pl} (hP : PlanOk P) (hC : PlC τ P) : ∃ τ', fX9_begin τ = some (τ', ()) ∧ eqT τ τ' ∧ TwC τ' P (beginT P) := by
  have h6 := hP.1
  unfold fX9_begin
  rw [pt_s, fill_ev _ 34 _ (by decide) (by decide), cl_s, gd_t (by decide), pt_s]
  refine ⟨_, rfl, ⟨fun k a b c => by rw [sc_o b, sc_o c, su_o a], rfl⟩, ?_, fun h hh => ?_, fun s hs => ?_⟩
  · rw [sc_o (by omega), sc_o (by omega), su_11, if_pos ⟨rfl, rfl⟩]
    unfold beginT
    rw [if_neg (by omega)]
    rfl
  · rw [sc_11, if_pos rfl, show Int32.toNatClampNeg 6 = 6 from rfl, show Int32.toNatClampNeg 0 = 0 from rfl, pk_cpy_in (by omega) (by omega), sc_o (by omega), su_o (by omega), show 0 + (h - 0) = h by omega, (hC.2.2.1 h hh).2]
    unfold beginT
    rw [if_pos (by omega), Nat.add_sub_cancel_left]
  · rw [sc_o (by omega), sc_11, if_pos rfl, if_pos (show s < LC 34 from hs)]
    unfold beginT
    rw [if_neg (by omega)]
    rfl
theorem eqT.c24 {τ : St} {v : Int32} {P : Pl} (hC : PlC τ P) : PlC (su τ 24 4 v) P := by
  unfold PlC
  rw [su_o (by omega), su_o (by omega), su_o (by omega), su_o (by omega), su_o (by omega), su_o (by omega), su_o (by omega)]
  exact hC
theorem cutC {τ : St} {P : Pl} {ds : Nat → Nat} {n : Nat} (hP : PlanOk P) (hC : PlC τ P) (hd : DdOk P ds n) (hτ : ∀ i, i < n → τ.1 35 i = nI (ds i)) : ∃ τ', fX3_cutTo τ (nI n) = some (τ', ()) ∧ eqT (su τ 24 4 (nI n)) τ' ∧ TwC τ' P (rep P ds n) := by
  have h40 := hd.1
  unfold fX3_cutTo
  obtain ⟨ρ, b1, b2, b3⟩ := beginC hP (eqT.c24 (v := nI n) hC)
  rw [pt_s, b1, cl_s, L_0]
  refine Exists.elim (iloop (fun m σ i k2 => fX3_cutTo_L14 (nI n) m σ i (fun σ i => k2 σ i)) n (fun i σ => eqT (su τ 24 4 (nI n)) σ ∧ TwC σ P (rep P ds i)) (fun σ9 _ => some (σ9, ())) (fun m σ h => ?_) (fun m σ i hi h => ?_) n 0 10000 ρ (by omega) (by omega) ⟨b2, b3⟩) (fun ρ2 hh => ?_)
  · rw [fX3_cutTo_L14, if_pos (nI_le (by omega) (by omega))]
  · obtain ⟨q1, q2⟩ := h
    obtain ⟨σ', e1, e2, e3⟩ := perfC hP (q1.plan (eqT.c24 hC)) (repOk hP hd i (by omega)) q2 (hd.2 i hi)
    refine ⟨σ', ⟨q1.trans e2, e3⟩, ?_⟩
    rw [fX3_cutTo_L14, if_neg (nI_ge hi (by omega)), rdC (show i < LC 35 by show i < 40; omega), q1.1 35 (by omega) (by omega) (by omega), su_o (by omega), hτ i hi, e1, cl_s, nI_1]
  · exact ⟨ρ2, hh.2, hh.1.1, hh.1.2⟩
theorem addC {τ : St} {P : Pl} {t : Tw} {n d : Nat} (hP : PlanOk P) (hC : PlC τ P) (ht : TwOk P t) (tC : TwC τ P t) (hn : n < 40) (hs : τ.1 24 4 = nI n) (hv : valid P t d) : ∃ τ', fX3_add τ (nI d) = some (τ', ()) ∧ eqT (su (su τ 35 n (nI d)) 24 4 (nI (n + 1))) τ' ∧ TwC τ' P (perf P t d) := by
  unfold fX3_add
  rw [hs, if_pos (show nI n < (40 : Int32) from nI_lt (b := 40) hn (by omega)), wrC (show n < LC 35 by show n < 40; omega), su_o (by omega), hs, nI_1, pt_s]
  have hC2 : PlC (su (su τ 35 n (nI d)) 24 4 (nI (n + 1))) P := by
    refine eqT.c24 ?_
    unfold PlC
    rw [su_o (by omega), su_o (by omega), su_o (by omega), su_o (by omega), su_o (by omega), su_o (by omega), su_o (by omega)]
    exact hC
  have tC2 : TwC (su (su τ 35 n (nI d)) 24 4 (nI (n + 1))) P t := by
    unfold TwC
    rw [su_o (by omega), su_o (by omega), su_o (by omega), su_o (by omega), su_o (by omega), su_o (by omega)]
    exact tC
  obtain ⟨τ', e1, e2, e3⟩ := perfC hP hC2 ht tC2 hv
  rw [e1]
  exact ⟨τ', rfl, e2, e3⟩
/-- the reference's copies -/
theorem copiesM {σ : St} {a b i j n : Nat} (hab : a ≠ b) (hi : i + n ≤ LM a) (hj : j + n ≤ LM b) (hn : n < 10000) : fX11_copies σ a (nI i) b (nI j) (nI n) = some (sc σ b (fun q => if j ≤ q ∧ q < j + n then σ.1 a (i + (q - j)) else σ.1 b q), ()) := by
  have h1 := LM_lt a
  have h2 := LM_lt b
  unfold fX11_copies
  rw [L_0]
  refine Exists.elim (iloop (fun m σ x k2 => fX11_copies_L3 a (nI i) b (nI j) (nI n) m σ x (fun σ x => k2 σ x)) n (fun x ρ => (∀ k, k ≠ b → ρ.1 k = σ.1 k) ∧ ρ.2 = σ.2 ∧ ∀ q, ρ.1 b q = if j ≤ q ∧ q < j + x then σ.1 a (i + (q - j)) else σ.1 b q) (fun σ5 _ => some (σ5, ())) (fun m ρ h => ?_) (fun m ρ x hx h => ?_) n 0 10000 σ (by omega) hn ⟨fun _ _ => rfl, rfl, fun q => by rw [if_neg (by omega)]⟩) (fun ρ hh => ?_)
  · rw [fX11_copies_L3, if_pos (nI_le (by omega) (by omega))]
  · obtain ⟨q1, q2, q3⟩ := h
    refine ⟨su ρ b (j + x) (σ.1 a (i + x)), ⟨fun k hk => (su_o hk).trans (q1 k hk), q2, fun q => ?_⟩, ?_⟩
    · rw [su_11]
      by_cases e : q = j + x
      · rw [if_pos ⟨rfl, e⟩, if_pos (by omega), e, Nat.add_sub_cancel_left]
      · rw [if_neg (fun w => e w.2), q3 q]
        by_cases w : j ≤ q ∧ q < j + x
        · rw [if_pos w, if_pos (by omega)]
        · rw [if_neg w, if_neg (by omega)]
    · rw [fX11_copies_L3, if_neg (nI_ge hx (by omega)), nI_add, nI_add, rdM (show i + x < LM a by omega), wrM (show j + x < LM b by omega), q1 a hab, nI_1]
  · obtain ⟨⟨q1, q2, q3⟩, e⟩ := hh
    rw [show (fX11_copies_L3 a (nI i) b (nI j) (nI n) 10000 σ (nI 0) fun σ5 v6 => some (σ5, ())) = _ from e]
    congr 2
    refine st_ext (fun k q => ?_) (fun k q => by rw [q2]; rfl)
    rw [sc_11]
    by_cases w : k = b
    · rw [if_pos w, w, q3 q]
    · rw [if_neg w, q1 k w]
theorem notesM {σ : St} {n : Nat} (hn : n < 40) (hs : σ.1 0 14 = nI n) : fX11_notes σ = some (su (sc σ 12 (fun q => if 55 * n ≤ q ∧ q < 55 * n + 55 then σ.1 10 (0 + (q - 55 * n)) else σ.1 12 q)) 0 14 (nI (n + 1)), ()) := by
  unfold fX11_notes
  rw [hs, L_55, L_0, pk_mul, copiesM (by omega) (by decide) (show 55 * n + 55 ≤ 2200 by omega) (by omega), cl_s, sc_o (by omega), hs, nI_1]
  rfl
