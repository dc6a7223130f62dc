/-! a town's text: colours -/
def FnC (nc : Nat) (τ τ' : St) : Prop := (∀ k, k ≠ 19 → τ'.1 k = τ.1 k) ∧ (∀ c, c ≠ nc → τ'.1 19 c = τ.1 19 c) ∧ τ'.2 = τ.2
def FnM (nc : Nat) (σ σ' : St) : Prop := (∀ k, k ≠ 0 → k ≠ 18 → σ'.1 k = σ.1 k) ∧ (∀ j, j ≠ 22 → σ'.1 0 j = σ.1 0 j) ∧ (∀ q, q < 7 * nc → σ'.1 18 q = σ.1 18 q) ∧ σ'.2 = σ.2
theorem FnC.rf (nc : Nat) (τ : St) : FnC nc τ τ := ⟨fun _ _ => rfl, fun _ _ => rfl, rfl⟩
theorem FnM.rf (nc : Nat) (σ : St) : FnM nc σ σ := ⟨fun _ _ _ => rfl, fun _ _ => rfl, fun _ _ => rfl, rfl⟩
theorem FnC.trans {nc : Nat} {a b c : St} (h : FnC nc a b) (g : FnC nc b c) : FnC nc a c := ⟨fun k x => (g.1 k x).trans (h.1 k x), fun k x => (g.2.1 k x).trans (h.2.1 k x), g.2.2.trans h.2.2⟩
theorem FnM.trans {nc : Nat} {a b c : St} (h : FnM nc a b) (g : FnM nc b c) : FnM nc a c := ⟨fun k x y => (g.1 k x y).trans (h.1 k x y), fun k x => (g.2.1 k x).trans (h.2.1 k x), fun k x => (g.2.2.1 k x).trans (h.2.2.1 k x), g.2.2.2.trans h.2.2.2⟩
theorem FnC.w (nc : Nat) (τ : St) (v : Int32) : FnC nc τ (su τ 19 nc v) := ⟨fun k h => su_o h, fun c h => by rw [su_11, if_neg (fun q => h q.2)], rfl⟩
theorem FnM.w (nc j : Nat) (σ : St) (v : Int32) : FnM nc σ (su σ 18 (7 * nc + j) v) := ⟨fun k _ h => su_o h, fun c _ => by rw [su_o (by omega)], fun q hq => by rw [su_11, if_neg (by omega)], rfl⟩
theorem FnM.w0 (nc : Nat) (σ : St) (v : Int32) : FnM nc σ (su σ 0 22 v) := ⟨fun k h _ => su_o h, fun c h => by rw [su_11, if_neg (fun q => h q.2)], fun q hq => by rw [su_o (by omega)], rfl⟩
theorem FnC.fr {nc : Nat} {τ τ' : St} (h : FnC nc τ τ') : FrC τ τ' := ⟨fun k hk => h.1 k (by omega), h.2.2⟩
theorem FnM.fr {nc : Nat} {σ σ' : St} (h : FnM nc σ σ') : FrM σ σ' := ⟨fun k a b => h.1 k (by omega) (by omega), fun j hj => h.2.1 j (by omega), h.2.2.2⟩
theorem zeroM {σ : St} {nc : Nat} (h26 : σ.1 0 26 = nI nc) (h8 : nc < 8) (p1 w1 : Int32) (kk : St → Int32 → Option (St × Int32)) : ∃ ρ, FnM nc σ ρ ∧ ρ.1 0 22 = σ.1 0 22 ∧ (∀ j, j < 7 → ρ.1 18 (7 * nc + j) = nI 0) ∧ fX11_readsColour_L18 p1 w1 10000 σ 0 kk = kk ρ (nI 7) := by
  have L := iloop (fun n' σ i k => fX11_readsColour_L18 p1 w1 n' σ i k) 7 (fun i ρ => (FnM nc σ ρ ∧ ρ.1 0 22 = σ.1 0 22) ∧ ∀ j, j < i → ρ.1 18 (7 * nc + j) = nI 0) kk (fun n' ρ hI => by
      show fX11_readsColour_L18 p1 w1 (n' + 1) ρ (nI 7) kk = _
      rw [fX11_readsColour_L18, if_pos (show (7 : Int32) ≤ nI 7 by decide)]) (fun n' ρ i hi hI => by
      obtain ⟨⟨q1, q2⟩, q3⟩ := hI
      have e26 : ρ.1 0 26 = nI nc := (q1.2.1 26 (by omega)).trans h26
      refine ⟨su ρ 18 (7 * nc + i) (nI 0), ⟨⟨q1.trans (FnM.w nc i ρ _), by rw [su_o (by omega)]; exact q2⟩, fun j hj => ?_⟩, ?_⟩
      · rw [su_11]
        by_cases z : j = i
        · rw [if_pos ⟨rfl, by rw [z]⟩]
        · rw [if_neg (by omega)]
          exact q3 j (by omega)
      · show fX11_readsColour_L18 p1 w1 (n' + 1) ρ (nI i) kk = fX11_readsColour_L18 p1 w1 n' _ (nI (i + 1)) kk
        rw [fX11_readsColour_L18, if_neg (show ¬ (7 : Int32) ≤ nI i from nI_ge (b := 7) hi (by omega)), e26, L_7, pk_mul, nI_add, wrM (show 7 * nc + i < LM 18 by show _ < 63; omega), nI_1]
        rfl) 7 0 10000 σ (by omega) (by omega) ⟨⟨FnM.rf nc σ, rfl⟩, fun j hj => absurd hj (by omega)⟩
  obtain ⟨ρ, ⟨⟨q1, q2⟩, q3⟩, e⟩ := L
  exact ⟨ρ, q1, q2, q3, e⟩
section LT
variable {σ : St} {tx n nc s l g : Nat} {T : Nat → Int32}
theorem l45_l (htx : tx < 4) (hn : n ≤ 90) (hT : TxM σ tx n T) (hp : σ.1 0 22 = nI (s + l)) (hi : s + l < n) (l7 : l < 7) {w : Nat} (hw : w ≤ 25) (e : T (s + l) = nI (97 + w)) (h26 : σ.1 0 26 = nI nc) (h8 : nc < 8) (kk : St → Option (St × Int32)) : fX11_readsColour_L45 (nI tx) (nI s) (g + 1) σ kk = fX11_readsColour_L45 (nI tx) (nI s) g (su (su σ 18 (7 * nc + l) (nI (97 + w))) 0 22 (nI (s + l + 1))) kk := by
  have hq : (su σ 18 (7 * nc + l) (nI (97 + w))).1 0 22 = nI (s + l) := by rw [su_o (by omega)]; exact hp
  rw [fX11_readsColour_L45, hereM htx hn hT hp (by omega), cl_s, hx_y hi, e, letterM, cl_s, sm_y hw, if_neg (show ¬ (1 : Int32) = 0 by decide), hp, pk_sub (by omega), Nat.add_sub_cancel_left, if_neg (show ¬ nI l = (7 : Int32) from nI_nq (b := 7) (by omega) (by omega) (by omega)), hereM htx hn hT hp (by omega), cl_s, hx_y hi, e, h26, L_7, pk_mul, nI_add, pk_sub (by omega), show 7 * nc + (s + l) - s = 7 * nc + l by omega, wrM (show 7 * nc + l < LM 18 by show _ < 63; omega), pt_s, hq, nI_1]
theorem l45_7 (htx : tx < 4) (hn : n ≤ 90) (hT : TxM σ tx n T) (hp : σ.1 0 22 = nI (s + 7)) (hi : s + 7 < n) {w : Nat} (hw : w ≤ 25) (e : T (s + 7) = nI (97 + w)) (kk : St → Option (St × Int32)) : fX11_readsColour_L45 (nI tx) (nI s) (g + 1) σ kk = some (σ, 0) := by
  rw [fX11_readsColour_L45, hereM htx hn hT hp (by omega), cl_s, hx_y hi, e, letterM, cl_s, sm_y hw, if_neg (show ¬ (1 : Int32) = 0 by decide), hp, pk_sub (by omega), Nat.add_sub_cancel_left, if_pos (show nI 7 = (7 : Int32) from rfl)]
theorem l45_e (htx : tx < 4) (hn : n ≤ 90) (hT : TxM σ tx n T) (hp : σ.1 0 22 = nI (s + l)) (hi : s + l ≤ n) (e : smB (hx n T (s + l)) = 0) (kk : St → Option (St × Int32)) : fX11_readsColour_L45 (nI tx) (nI s) (g + 1) σ kk = kk σ := by
  rw [fX11_readsColour_L45, hereM htx hn hT hp hi, cl_s, letterM, cl_s, if_pos e]
end LT
theorem nameL {tx n nc s : Nat} {T : Nat → Int32} {τ0 σ0 : St} (htx : tx < 4) (hn : n ≤ 90) (h8 : nc < 8) (xC : TxC τ0 tx T) (xM : TxM σ0 tx n T) (h6 : τ0.1 17 6 = nI nc) (h1 : τ0.1 17 8 = nI 1) (h26 : σ0.1 0 26 = nI nc) (kk : St → Option (St × Int32)) : ∀ (m l f g : Nat) (τ σ : St) (a : Nat → Nat), s + l + m = n → m < f → m < g → σ.1 0 22 = nI (s + l) → NmR T τ σ (s + l) nc s l a → FnC nc τ0 τ → FnM nc σ0 σ → (∃ τ' σ' p, p ≤ n ∧ cL tx n f τ (s + l) = some (τ', nI p) ∧ fX11_readsColour_L45 (nI tx) (nI s) g σ kk = some (σ', 0) ∧ σ'.1 0 22 = nI p ∧ FnC nc τ0 τ' ∧ FnM nc σ0 σ') ∨ (∃ τ' σ' l' a' f', l ≤ l' ∧ s + l' ≤ n ∧ n - (s + l') < f' ∧ smB (hx n T (s + l')) = 0 ∧ cL tx n f τ (s + l) = cL tx n f' τ' (s + l') ∧ fX11_readsColour_L45 (nI tx) (nI s) g σ kk = kk σ' ∧ σ'.1 0 22 = nI (s + l') ∧ NmR T τ' σ' (s + l') nc s l' a' ∧ FnC nc τ0 τ' ∧ FnM nc σ0 σ') := by
  intro m
  induction m with
  | zero =>
    intro l f g τ σ a hm hf hg hp hN fC fM
    match g, hg with
    | g + 1, _ =>
      have e : smB (hx n T (s + l)) = 0 := by
        unfold hx
        rw [if_neg (by omega)]
        rfl
      exact Or.inr ⟨τ, σ, l, a, f, Nat.le_refl l, by omega, by omega, e, rfl, l45_e htx hn (fM.fr.tx xM) hp (by omega) e kk, hp, hN, fC, fM⟩
  | succ m ih =>
    intro l f g τ σ a hm hf hg hp hN fC fM
    have yC := fC.fr.tx htx xC
    have yM := fM.fr.tx xM
    have y6 : τ.1 17 6 = nI nc := by rw [fC.1 17 (by omega)]; exact h6
    have y1 : τ.1 17 8 = nI 1 := by rw [fC.1 17 (by omega)]; exact h1
    have y26 : σ.1 0 26 = nI nc := (fM.2.1 26 (by omega)).trans h26
    match f, g, hf, hg with
    | f + 1, g + 1, hf, hg =>
      rcases smL_or (T (s + l)) with ⟨w, hw, e⟩ | no
      · by_cases z : l = 7
        · rw [z] at hp e hm hN ⊢
          exact Or.inl ⟨τ, σ, s + 7, by omega, cL_bad hn (by omega) (by omega) (st1_7 y1 hw e y6 h8 hN.2.2.1 htx (by omega) yC), l45_7 htx hn yM hp (by omega) hw e kk, hp, fC, fM⟩
        · have l7 : l < 7 := by
            have := hN.1
            omega
          obtain ⟨a2, ha2⟩ : ∃ x : Nat → Nat, ∀ j, x j = if j = l then w else a j := ⟨_, fun _ => rfl⟩
          have N2 : NmR T (su τ 19 nc (nI (l + 1))) (su (su σ 18 (7 * nc + l) (nI (97 + w))) 0 22 (nI (s + l + 1))) (s + (l + 1)) nc s (l + 1) a2 := by
            refine ⟨⟨by omega, by omega, Nat.le_refl _⟩, ?_, ?_, fun j hj => ?_, fun j hj => ?_⟩
            · rw [su_o (by omega)]
              exact hN.2.1
            · rw [su_11, if_pos ⟨rfl, rfl⟩]
            · by_cases y : j = l
              · rw [ha2, if_pos y, y]
                exact ⟨hw, e⟩
              · rw [ha2, if_neg y]
                exact hN.2.2.2.1 j (by omega)
            · rw [su_o (by omega), su_11]
              unfold pd
              by_cases y : j = l
              · rw [if_pos ⟨rfl, by rw [y]⟩, if_pos (by omega), ha2, if_pos y]
              · rw [if_neg (by omega), hN.2.2.2.2 j hj]
                unfold pd
                by_cases v : j < l
                · rw [if_pos v, if_pos (by omega), ha2, if_neg y]
                · rw [if_neg v, if_neg (by omega)]
          have r := ih (l + 1) f g (su τ 19 nc (nI (l + 1))) (su (su σ 18 (7 * nc + l) (nI (97 + w))) 0 22 (nI (s + l + 1))) a2 (by omega) (by omega) (by omega) (by rw [su_11, if_pos ⟨rfl, rfl⟩]; rfl) N2 (fC.trans (FnC.w nc τ _)) ((fM.trans (FnM.w nc l σ _)).trans (FnM.w0 nc _ _))
          have gC : cL tx n (f + 1) τ (s + l) = cL tx n f (su τ 19 nc (nI (l + 1))) (s + (l + 1)) := cL_go hn (by omega) (st1_l y1 hw e y6 h8 hN.2.2.1 l7 htx (by omega) yC)
          rw [gC, l45_l htx hn yM hp (by omega) l7 hw e y26 h8]
          rcases r with r | ⟨τ', σ', l', a', f', r1, r2⟩
          · exact Or.inl r
          · exact Or.inr ⟨τ', σ', l', a', f', by omega, r2⟩
      · have e : smB (hx n T (s + l)) = 0 := by
          rw [hx_y (by omega)]
          exact no
        exact Or.inr ⟨τ, σ, l, a, f + 1, Nat.le_refl l, by omega, by omega, e, rfl, l45_e htx hn yM hp (by omega) e kk, hp, hN, fC, fM⟩
theorem pd_0 (l : Nat) (a : Nat → Nat) : pd 0 l (fun j => 97 + a j) = pd 97 l a := funext fun j => by
  unfold pd
  rw [Nat.zero_add]
theorem pd_lt {l : Nat} {a : Nat → Nat} (h : ∀ j, j < l → a j ≤ 25) (j : Nat) : pd 97 l a j < 1000 := by
  unfold pd
  by_cases q : j < l
  · rw [if_pos q]
    have := h j q
    omega
  · rw [if_neg q]
    omega
theorem cmpN {τ σ : St} {T : Nat → Int32} {tx i c d s l s' l' : Nat} {a a' : Nat → Nat} (htx : tx < 4) (xC : TxC τ tx T) (hi : i ≤ 90) (hc : c < 8) (hd : d < 8) (hN : NmR T τ σ i c s l a) (hN' : NmR T τ σ i d s' l' a') : ∃ r, fX8_compareNames τ (13 + tx) (nI c) (nI d) = some (τ, r) ∧ (r = 0 ↔ cmpS (pd 97 l a) (pd 97 l' a') 0 7 = 0) ∧ (r < 0 ↔ cmpS (pd 97 l a) (pd 97 l' a') 0 7 < 0) := by
  have b1 := hN.1
  have b2 := hN'.1
  have q := runsC (τ := τ) (p0 := 13 + tx) (p3 := 13 + tx) (o1 := s) (o2 := s') (la := l) (lb := l') (z := 0) (a := fun j => 97 + a j) (b := fun j => 97 + a' j) (fun j hj => by
    have := hN.2.2.2.1 j hj
    exact ⟨by omega, by omega, by rw [xC (s + j) (by omega)]; exact this.2⟩) (fun j hj => by
    have := hN'.2.2.2.1 j hj
    exact ⟨by omega, by omega, by rw [xC (s' + j) (by omega)]; exact this.2⟩) b1.2.1 b2.2.1 (by rw [LC_text htx]; omega) (by rw [LC_text htx]; omega)
  rw [pd_0, pd_0] at q
  obtain ⟨r, q1, q2⟩ := q
  refine ⟨r, ?_, q2⟩
  unfold fX8_compareNames
  rw [rdC (show c < LC 18 by show c < 8; omega), hN.2.1, rdC (show c < LC 19 by show c < 8; omega), hN.2.2.1, rdC (show d < LC 18 by show d < 8; omega), hN'.2.1, rdC (show d < LC 19 by show d < 8; omega), hN'.2.2.1, q1, cl_s]
def eqF (A B : Nat → Nat) : Nat → Bool
  | 0 => true
  | s + 1 => eqF A B s && decide (A s = B s)
theorem eqF_y {A B : Nat → Nat} : ∀ s, (∀ j, j < s → A j = B j) → eqF A B s = true
  | 0, _ => rfl
  | s + 1, h => by
    show (eqF A B s && decide (A s = B s)) = true
    rw [eqF_y s (fun j hj => h j (by omega)), decide_eq_true (h s (by omega))]
    rfl
theorem eqF_n {A B : Nat → Nat} : ∀ s, eqF A B s = true → ∀ j, j < s → A j = B j
  | 0, _, j, hj => absurd hj (by omega)
  | s + 1, h, j, hj => by
    have h' : (eqF A B s && decide (A s = B s)) = true := h
    rw [Bool.and_eq_true, decide_eq_true_eq] at h'
    by_cases z : j = s
    · rw [z]
      exact h'.2
    · exact eqF_n s h'.1 j (by omega)
theorem l14M {σ : St} {c nc : Nat} {A B : Nat → Nat} (hc : c < 9) (h8 : nc < 9) (h26 : σ.1 0 26 = nI nc) (hA : ∀ j, j < 7 → A j < 1000 ∧ σ.1 18 (7 * c + j) = nI (A j)) (hB : ∀ j, j < 7 → B j < 1000 ∧ σ.1 18 (7 * nc + j) = nI (B j)) (kk : St → Int32 → Int32 → Option (St × Int32)) : fX11_isToldAlready_L14 (nI c) 10000 σ 1 0 kk = kk σ (if eqF A B 7 then 1 else 0) (nI 7) := by
  have L : ∀ (m s f : Nat), s + m = 7 → m < f → fX11_isToldAlready_L14 (nI c) f σ (if eqF A B s then 1 else 0) (nI s) kk = kk σ (if eqF A B 7 then 1 else 0) (nI 7) := by
    intro m
    induction m with
    | zero =>
      intro s f hs hf
      match f, hf with
      | f + 1, _ =>
        rw [show s = 7 by omega, fX11_isToldAlready_L14, if_pos (show (7 : Int32) ≤ nI 7 by decide)]
    | succ m ih =>
      intro s f hs hf
      match f, hf with
      | f + 1, hf =>
        have ih' := ih (s + 1) f (by omega) (by omega)
        rw [show eqF A B (s + 1) = (eqF A B s && decide (A s = B s)) from rfl] at ih'
        have a1 := hA s (by omega)
        have b1 := hB s (by omega)
        rw [fX11_isToldAlready_L14, if_neg (show ¬ (7 : Int32) ≤ nI s from nI_ge (b := 7) (by omega) (by omega)), jn_s, jn_s, nI_1]
        revert ih'
        cases eqF A B s
        · intro ih'
          simp only [Bool.false_eq_true, if_false, if_true]
          exact ih'
        · intro ih'
          rw [if_pos (show true = true from rfl), if_neg (show ¬ (1 : Int32) = 0 by decide), L_7, pk_mul, nI_add, rdM (show 7 * c + s < LM 18 by show _ < 63; omega), a1.2, h26, pk_mul, nI_add, rdM (show 7 * nc + s < LM 18 by show _ < 63; omega), b1.2]
          by_cases q : A s = B s
          · rw [if_pos (by rw [q])]
            rw [decide_eq_true q] at ih'
            exact ih'
          · rw [if_neg (nI_nq (by omega) (by omega) q)]
            rw [decide_eq_false q] at ih'
            exact ih'
  exact L 7 0 10000 (by omega) (by omega)
theorem toldL {τ σ : St} {T : Nat → Int32} {tx i nc : Nat} (htx : tx < 4) (xC : TxC τ tx T) (h8 : nc < 8) (h6 : τ.1 17 6 = nI nc) (h26 : σ.1 0 26 = nI nc) (hi : i ≤ 90) (N : ∀ c, c ≤ nc → ∃ s l a, NmR T τ σ i c s l a) : ∀ (m c f g : Nat), c + m = nc → m < f → m < g → (∀ d, d < c → ∃ j, j < 7 ∧ ¬ σ.1 18 (7 * d + j) = σ.1 18 (7 * nc + j)) → ∃ b : Bool, fX8_isToldAlready_L2 (13 + tx) f τ (nI c) (fun σ5 v6 => some (σ5, 0)) = some (τ, if b then 1 else 0) ∧ fX11_isToldAlready_L2 g σ (nI c) (fun σ14 v15 => some (σ14, 0)) = some (σ, if b then 1 else 0) ∧ (b = false → ∀ d, d < nc → ∃ j, j < 7 ∧ ¬ σ.1 18 (7 * d + j) = σ.1 18 (7 * nc + j)) := by
  intro m
  induction m with
  | zero =>
    intro c f g hc hf hg hd
    match f, g, hf, hg with
    | f + 1, g + 1, _, _ =>
      refine ⟨false, ?_, ?_, fun _ d hd' => hd d (by omega)⟩
      · rw [fX8_isToldAlready_L2, h6, if_pos (nI_le (by omega) (by omega))]
        rfl
      · rw [fX11_isToldAlready_L2, h26, if_pos (nI_le (by omega) (by omega))]
        rfl
  | succ m ih =>
    intro c f g hc hf hg hd
    match f, g, hf, hg with
    | f + 1, g + 1, hf, hg =>
      obtain ⟨s, l, a, N1⟩ := N c (by omega)
      obtain ⟨s', l', a', N2⟩ := N nc (Nat.le_refl nc)
      obtain ⟨r, r1, r2, -⟩ := cmpN htx xC hi (show c < 8 by omega) h8 N1 N2
      have hA : ∀ j, j < 7 → pd 97 l a j < 1000 ∧ σ.1 18 (7 * c + j) = nI (pd 97 l a j) := fun j hj => ⟨pd_lt (fun x hx => (N1.2.2.2.1 x hx).1) j, N1.2.2.2.2 j hj⟩
      have hB : ∀ j, j < 7 → pd 97 l' a' j < 1000 ∧ σ.1 18 (7 * nc + j) = nI (pd 97 l' a' j) := fun j hj => ⟨pd_lt (fun x hx => (N2.2.2.2.1 x hx).1) j, N2.2.2.2.2 j hj⟩
      by_cases q : cmpS (pd 97 l a) (pd 97 l' a') 0 7 = 0
      · have eq := eqF_y (A := pd 97 l a) (B := pd 97 l' a') 7 (fun j hj => cmpS_inv 7 0 q j (by omega) (by omega))
        refine ⟨true, ?_, ?_, fun z => by cases z⟩
        · rw [fX8_isToldAlready_L2, h6, if_neg (nI_ge (by omega) (by omega)), r1, cl_s, if_pos (r2.mpr q)]
          rfl
        · rw [fX11_isToldAlready_L2, h26, if_neg (nI_ge (by omega) (by omega)), l14M (by omega) (by omega) h26 hA hB, eq, if_pos (show true = true from rfl), if_neg (show ¬ (1 : Int32) = 0 by decide)]
      · have ne : eqF (pd 97 l a) (pd 97 l' a') 7 = false := by
          cases z : eqF (pd 97 l a) (pd 97 l' a') 7
          · rfl
          · exact absurd (cmpS_eq 7 0 (fun j _ hj => eqF_n 7 z j (by omega))) q
        have dc : ∃ j, j < 7 ∧ ¬ σ.1 18 (7 * c + j) = σ.1 18 (7 * nc + j) := Classical.byContradiction fun no => q (cmpS_eq 7 0 (fun j _ hj => Classical.byContradiction fun nq => no ⟨j, by omega, fun e => nq (by
          rw [(hA j (by omega)).2, (hB j (by omega)).2] at e
          exact (nI_eq (by have := (hA j (by omega)).1; omega) (by have := (hB j (by omega)).1; omega)).mp e)⟩))
        obtain ⟨b, b1, b2, b3⟩ := ih (c + 1) f g (by omega) (by omega) (by omega) (fun d hd' => by
          by_cases z : d = c
          · rw [z]
            exact dc
          · exact hd d (by omega))
        refine ⟨b, ?_, ?_, b3⟩
        · rw [fX8_isToldAlready_L2, h6, if_neg (nI_ge (by omega) (by omega)), r1, cl_s, if_neg (fun z => q (r2.mp z)), nI_1]
          exact b1
        · rw [fX11_isToldAlready_L2, h26, if_neg (nI_ge (by omega) (by omega)), l14M (by omega) (by omega) h26 hA hB, ne, if_neg (show ¬ false = true by decide), if_pos rfl, nI_1]
          exact b2
theorem toldR {τ σ : St} {T : Nat → Int32} {tx i nc : Nat} (htx : tx < 4) (xC : TxC τ tx T) (h8 : nc < 8) (h6 : τ.1 17 6 = nI nc) (h26 : σ.1 0 26 = nI nc) (hi : i ≤ 90) (N : ∀ c, c ≤ nc → ∃ s l a, NmR T τ σ i c s l a) : ∃ b : Bool, fX8_isToldAlready τ (13 + tx) = some (τ, if b then 1 else 0) ∧ fX11_isToldAlready σ = some (σ, if b then 1 else 0) ∧ (b = false → ∀ d, d < nc → ∃ j, j < 7 ∧ ¬ σ.1 18 (7 * d + j) = σ.1 18 (7 * nc + j)) := toldL htx xC h8 h6 h26 hi N nc 0 10000 10000 (by omega) (by omega) (by omega) (fun d hd => absurd hd (by omega))
def kC (p1 w1 : Int32) : St → Option (St × Int32) := fun σ16 => cl (fX11_isToldAlready σ16) (fun σ17 r18 => (if r18 = 0 then cl (fX11_figure σ17 p1 1) (fun σ19 r20 => (if r20 = 0 then some (σ19, 0) else cl (fX11_figure σ19 p1 1) (fun σ21 r22 => (if r22 = 0 then some (σ21, 0) else rd LM σ21 4 (((90 * p1) + (σ21.1 0 22)) - 2) (fun x23 => wr LM σ21 19 (σ21.1 0 26) (x23 - 48) (fun σ24 => rd LM σ24 4 (((90 * p1) + (σ24.1 0 22)) - 1) (fun x25 => wr LM σ24 20 (σ24.1 0 26) (x25 - 48) (fun σ26 => pt (su σ26 0 26 ((σ26.1 0 26) + 1)) (fun σ27 => cl (fX11_ends σ27 p1) (fun σ28 r29 => gd (isB r29) (some (σ28, r29)))))))))))) else pt (su σ17 0 22 w1) (fun σ30 => some (σ30, 0))))
def cS (σ : St) (nc p q i : Nat) : St := su (su (su (su σ 0 22 (nI i)) 19 nc (nI p)) 20 nc (nI q)) 0 26 (nI (nc + 1))
section KC
variable {σ : St} {tx n nc e : Nat} {T : Nat → Int32}
theorem kC_t (w1 : Int32) (ht : fX11_isToldAlready σ = some (σ, 1)) : kC (nI tx) w1 σ = some (su σ 0 22 w1, 0) := by
  unfold kC
  rw [ht, cl_s, if_neg (show ¬ (1 : Int32) = 0 by decide), pt_s]
theorem kC_1 (w1 : Int32) (ht : fX11_isToldAlready σ = some (σ, 0)) (htx : tx < 4) (hn : n ≤ 90) (hT : TxM σ tx n T) (hp : σ.1 0 22 = nI e) (hi : e ≤ n) (f1 : fgB 1 (hx n T e) = 0) : kC (nI tx) w1 σ = some (σ, 0) := by
  unfold kC
  rw [ht, cl_s, if_pos rfl, show fX11_figure σ (nI tx) 1 = _ from figM_n (l := 1) htx hn hT hp hi (by omega) f1, cl_s, if_pos rfl]
theorem kC_2 (w1 : Int32) (ht : fX11_isToldAlready σ = some (σ, 0)) (htx : tx < 4) (hn : n ≤ 90) (hT : TxM σ tx n T) (hp : σ.1 0 22 = nI e) (hi : e < n) {p : Nat} (p1 : 1 ≤ p) (p9 : p ≤ 9) (ep : T e = nI (48 + p)) (f1 : fgB 1 (hx n T (e + 1)) = 0) : kC (nI tx) w1 σ = some (su σ 0 22 (nI (e + 1)), 0) := by
  have f := figM_n (σ := su σ 0 22 (nI (e + 1))) (l := 1) htx hn (((FrM.rf σ).w0 (by omega)).tx hT) (by rw [su_11, if_pos ⟨rfl, rfl⟩]) (show e + 1 ≤ n by omega) (by omega) f1
  unfold kC
  rw [ht, cl_s, if_pos rfl, show fX11_figure σ (nI tx) 1 = _ from figM_y (l := 1) htx hn hT hp hi p1 p9 ep, cl_s, if_neg (show ¬ (1 : Int32) = 0 by decide), show fX11_figure (su σ 0 22 (nI (e + 1))) (nI tx) 1 = _ from f, cl_s, if_pos rfl]
theorem kC_y (w1 : Int32) (ht : fX11_isToldAlready σ = some (σ, 0)) (htx : tx < 4) (hn : n ≤ 90) (hT : TxM σ tx n T) (hp : σ.1 0 22 = nI e) (hi : e + 1 < n) (h26 : σ.1 0 26 = nI nc) (h8 : nc < 8) {p q : Nat} (p1 : 1 ≤ p) (p9 : p ≤ 9) (ep : T e = nI (48 + p)) (q1 : 1 ≤ q) (q9 : q ≤ 9) (eq : T (e + 1) = nI (48 + q)) : kC (nI tx) w1 σ = cl (fX11_ends (cS σ nc p q (e + 1 + 1)) (nI tx)) (fun σ28 r29 => gd (isB r29) (some (σ28, r29))) := by
  have f := figM_y (σ := su σ 0 22 (nI (e + 1))) (l := 1) htx hn (((FrM.rf σ).w0 (by omega)).tx hT) (by rw [su_11, if_pos ⟨rfl, rfl⟩]) hi q1 q9 eq
  have a1 : (su σ 0 22 (nI (e + 1 + 1))).1 0 22 = nI (e + 1 + 1) := by rw [su_11, if_pos ⟨rfl, rfl⟩]
  have a2 : (su σ 0 22 (nI (e + 1 + 1))).1 0 26 = nI nc := by rw [su_11, if_neg (by omega)]; exact h26
  have a3 : (su σ 0 22 (nI (e + 1 + 1))).1 4 (90 * tx + e) = nI (48 + p) := by rw [su_o (by omega), hT.2 e (by omega), ep]
  have b1 : (su (su σ 0 22 (nI (e + 1 + 1))) 19 nc (nI p)).1 0 22 = nI (e + 1 + 1) := by rw [su_o (by omega)]; exact a1
  have b2 : (su (su σ 0 22 (nI (e + 1 + 1))) 19 nc (nI p)).1 0 26 = nI nc := by rw [su_o (by omega)]; exact a2
  have b3 : (su (su σ 0 22 (nI (e + 1 + 1))) 19 nc (nI p)).1 4 (90 * tx + (e + 1)) = nI (48 + q) := by rw [su_o (by omega), su_o (by omega), hT.2 (e + 1) (by omega), eq]
  have c2 : (su (su (su σ 0 22 (nI (e + 1 + 1))) 19 nc (nI p)) 20 nc (nI q)).1 0 26 = nI nc := by rw [su_o (by omega)]; exact b2
  have g1 : nI 90 * nI tx + nI (e + 1 + 1) - 2 = nI (90 * tx + e) := by
    rw [pk_mul, nI_add, show (2 : Int32) = nI 2 from rfl, pk_sub (by omega), show 90 * tx + (e + 1 + 1) - 2 = 90 * tx + e by omega]
  have g2 : nI 90 * nI tx + nI (e + 1 + 1) - 1 = nI (90 * tx + (e + 1)) := by
    rw [pk_mul, nI_add, show 90 * tx + (e + 1 + 1) = 90 * tx + (e + 1) + 1 by omega, nI_pred]
  unfold kC
  rw [ht, cl_s, if_pos rfl, show fX11_figure σ (nI tx) 1 = _ from figM_y (l := 1) htx hn hT hp (by omega) p1 p9 ep, cl_s, if_neg (show ¬ (1 : Int32) = 0 by decide), show fX11_figure (su σ 0 22 (nI (e + 1))) (nI tx) 1 = _ from f, cl_s, if_neg (show ¬ (1 : Int32) = 0 by decide), su_su, a1, L_90, g1, rdM (show 90 * tx + e < LM 4 by show _ < 360; omega), a3, a2, m48, wrM (show nc < LM 19 by show nc < 9; omega), b1, g2, rdM (show 90 * tx + (e + 1) < LM 4 by show _ < 360; omega), b3, b2, m48, wrM (show nc < LM 20 by show nc < 9; omega), pt_s, c2, nI_1]
  rfl
end KC
theorem fin_t {τ : St} {tx n nc s : Nat} (h1 : τ.1 17 8 = nI 1) (h6 : τ.1 17 6 = nI nc) (h8 : nc < 8) (hb : τ.1 18 nc = nI s) (ht : fX8_isToldAlready τ (13 + tx) = some (τ, 1)) (v : Int32) : finC (13 + tx) (nI n) τ v = some (τ, nI s) := by
  unfold finC
  rw [h1, if_pos (show nI 1 = (1 : Int32) from rfl), ht, cl_s, if_neg (show ¬ (1 : Int32) = 0 by decide), h6, rdC (show nc < LC 18 by show nc < 8; omega), hb]
theorem fin_u {τ : St} {tx n : Nat} (h1 : τ.1 17 8 = nI 1) (ht : fX8_isToldAlready τ (13 + tx) = some (τ, 0)) (v : Int32) : finC (13 + tx) (nI n) τ v = some (τ, nI n) := by
  unfold finC
  rw [h1, if_pos (show nI 1 = (1 : Int32) from rfl), ht, cl_s, if_pos rfl]
  unfold finK
  rw [h1, if_neg (by decide)]
theorem colIt {τ σ : St} {tx n i nh nc f w : Nat} {T : Nat → Int32} (htx : tx < 4) (hn : n ≤ 90) (xC : TxC τ tx T) (xM : TxM σ tx n T) (hI : Inv n T τ σ nh nc i) (hi : i < n) (hf : n - i < f) (hw : w ≤ 25) (ew : T i = nI (97 + w)) : Fal tx n f τ σ i (fX11_readsColour σ (nI tx)) ∨ Suc T tx n f τ σ i (fX11_readsColour σ (nI tx)) nh (nc + 1) := by
  obtain ⟨⟨b6, b8, bi⟩, ⟨c7, c6, c8⟩, ⟨m22, m23, m26⟩, hH, hCo, hD⟩ := hI
  match f, hf with
  | f + 1, hf =>
    by_cases z : nc = 8
    · rw [z] at c6 m26
      refine Or.inl ⟨τ, σ, i, by omega, cL_bad hn hi (by omega) (st0_c8 c8 hw ew c6 htx (by omega) xC), ?_, m22, FrC.rf τ, FrM.rf σ⟩
      unfold fX11_readsColour
      rw [m26, if_pos (show nI 8 = (8 : Int32) from rfl)]
    have h8 : nc < 8 := by omega
    obtain ⟨τ1, e1⟩ : ∃ x, x = su (su (su τ 18 nc (nI i)) 19 nc (nI 1)) 17 8 1 := ⟨_, rfl⟩
    have F1 : FrC τ τ1 := by
      rw [e1]
      exact (((FrC.rf τ).w (by omega) (by omega)).w (by omega) (by omega)).w (by omega) (by omega)
    have a1 : τ1.1 17 8 = nI 1 := by rw [e1, su_11, if_pos ⟨rfl, rfl⟩]; rfl
    have a2 : τ1.1 17 7 = nI nh := by rw [e1, su_11, if_neg (by omega), su_o (by omega), su_o (by omega)]; exact c7
    have a3 : τ1.1 17 6 = nI nc := by rw [e1, su_11, if_neg (by omega), su_o (by omega), su_o (by omega)]; exact c6
    have a18 : ∀ c, c ≠ nc → τ1.1 18 c = τ.1 18 c := fun c hc => by rw [e1, su_o (by omega), su_o (by omega), su_11, if_neg (by omega)]
    have a19 : ∀ c, c ≠ nc → τ1.1 19 c = τ.1 19 c := fun c hc => by rw [e1, su_o (by omega), su_11, if_neg (by omega), su_o (by omega)]
    have aO : ∀ k, k ≠ 17 → k ≠ 18 → k ≠ 19 → τ1.1 k = τ.1 k := fun k x y z => by rw [e1, su_o x, su_o z, su_o y]
    have go1 : cL tx n (f + 1) τ i = cL tx n f τ1 (i + 1) := by
      rw [e1]
      exact cL_go hn hi (st0_c c8 hw ew c6 h8 htx (by omega) xC)
    obtain ⟨ρ0, z1, z2, z3, z4⟩ := zeroM (σ := σ) m26 h8 (nI tx) (nI i) (fun σ5 _ => fX11_readsColour_L45 (nI tx) (nI i) 10000 σ5 (kC (nI tx) (nI i)))
    obtain ⟨ρ1, e2⟩ : ∃ x, x = su (su ρ0 18 (7 * nc + 0) (nI (97 + w))) 0 22 (nI (i + 0 + 1)) := ⟨_, rfl⟩
    have M1 : FnM nc σ ρ1 := by
      rw [e2]
      exact (z1.trans (FnM.w nc 0 ρ0 _)).trans (FnM.w0 nc _ _)
    have rC : fX11_readsColour σ (nI tx) = fX11_readsColour_L45 (nI tx) (nI i) 9999 ρ1 (kC (nI tx) (nI i)) := by
      unfold fX11_readsColour
      rw [m26, if_neg (show ¬ nI nc = (8 : Int32) from nI_nq (b := 8) (by omega) (by omega) z), pv_s, m22]
      refine Eq.trans z4 ?_
      rw [e2]
      exact l45_l (g := 9999) (s := i) (l := 0) htx hn (z1.fr.tx xM) (z2.trans m22) hi (by omega) hw ew ((z1.2.1 26 (by omega)).trans m26) h8 _
    have N1 : NmR T τ1 ρ1 (i + 1) nc i 1 (fun _ => w) := by
      refine ⟨⟨by omega, by omega, Nat.le_refl _⟩, ?_, ?_, fun j hj => ⟨hw, ?_⟩, fun j hj => ?_⟩
      · rw [e1, su_o (by omega), su_o (by omega), su_11, if_pos ⟨rfl, rfl⟩]
      · rw [e1, su_o (by omega), su_11, if_pos ⟨rfl, rfl⟩]
      · rw [show j = 0 by omega]
        exact ew
      · rw [e2, su_o (by omega), su_11]
        unfold pd
        by_cases y : j = 0
        · rw [if_pos ⟨rfl, by rw [y]⟩, if_pos (by omega)]
        · rw [if_neg (by omega), if_neg (by omega)]
          exact z3 j hj
    have p22 : ρ1.1 0 22 = nI (i + 1) := by rw [e2, su_11, if_pos ⟨rfl, rfl⟩]
    have R := nameL (s := i) (τ0 := τ1) (σ0 := ρ1) htx hn h8 (F1.tx htx xC) (M1.fr.tx xM) a3 a1 ((M1.2.1 26 (by omega)).trans m26) (kC (nI tx) (nI i)) (n - (i + 1)) 1 f 9999 τ1 ρ1 (fun _ => w) (by omega) (by omega) (by omega) p22 N1 (FnC.rf nc τ1) (FnM.rf nc ρ1)
    rw [rC]
    rcases R with ⟨τ', σ', p, r1, r2, r3, r4, r5, r6⟩ | ⟨τ2, σ2, l, a, f2, r1, r2, r3, r4, r5, r6, r7, r8, r9, r10⟩
    · exact Or.inl ⟨τ', σ', p, r1, go1.trans r2, r3, r4, F1.trans r5.fr, M1.fr.trans r6.fr⟩
    have F2 : FrC τ τ2 := F1.trans r9.fr
    have M2 : FnM nc σ σ2 := M1.trans r10
    have go2 : cL tx n (f + 1) τ i = cL tx n f2 τ2 (i + l) := go1.trans r5
    rw [r6]
    have d1 : τ2.1 17 8 = nI 1 := by rw [r9.1 17 (by omega)]; exact a1
    have d7 : τ2.1 17 7 = nI nh := by rw [r9.1 17 (by omega)]; exact a2
    have d6 : τ2.1 17 6 = nI nc := by rw [r9.1 17 (by omega)]; exact a3
    have d26 : σ2.1 0 26 = nI nc := (M2.2.1 26 (by omega)).trans m26
    have d23 : σ2.1 0 23 = nI nh := (M2.2.1 23 (by omega)).trans m23
    have d18 : ∀ c, c ≠ nc → τ2.1 18 c = τ.1 18 c := fun c hc => by rw [r9.1 18 (by omega)]; exact a18 c hc
    have d19 : ∀ c, c ≠ nc → τ2.1 19 c = τ.1 19 c := fun c hc => (r9.2.1 c hc).trans (a19 c hc)
    have dO : ∀ k, k ≠ 17 → k ≠ 18 → k ≠ 19 → τ2.1 k = τ.1 k := fun k x y z => (r9.1 k z).trans (aO k x y z)
    have NN : ∀ c, c ≤ nc → ∃ s l' a', NmR T τ2 σ2 (i + l) c s l' a' := fun c hc => by
      by_cases y : c = nc
      · rw [y]
        exact ⟨i, l, a, r8⟩
      · obtain ⟨⟨s, l', a', g⟩, -⟩ := hCo c (by omega)
        exact ⟨s, l', a', g.fr (by omega) (d18 c y) (d19 c y) (fun j hj => M2.2.2.1 _ (by omega))⟩
    obtain ⟨b, t1, t2, t3⟩ := toldR htx (F2.tx htx xC) h8 d6 d26 (show i + l ≤ 90 by omega) NN
    obtain ⟨f2, rfl⟩ : ∃ x, f2 = x + 1 := ⟨f2 - 1, by omega⟩
    cases b
    case true =>
      have t1' : fX8_isToldAlready τ2 (13 + tx) = some (τ2, 1) := t1
      refine Or.inl ⟨τ2, su σ2 0 22 (nI i), i, by omega, ?_, kC_t (nI i) t2, by rw [su_11, if_pos ⟨rfl, rfl⟩], F2, M2.fr.w0 (by omega)⟩
      rw [go2]
      by_cases y : i + l < n
      · rw [hx_y y] at r4
        exact cL_bad hn y (by omega) (st1_t d1 r4 d6 h8 r8.2.1 t1' htx (by omega) (F2.tx htx xC))
      · rw [show i + l = n by omega, cL_end hn]
        exact fin_t d1 d6 h8 r8.2.1 t1' _
    case false =>
      have t1' : fX8_isToldAlready τ2 (13 + tx) = some (τ2, 0) := t1
      have t2' : fX11_isToldAlready σ2 = some (σ2, 0) := t2
      have yM := M2.fr.tx xM
      rcases fg_or (Nat.le_refl 1) (hx n T (i + l)) with ⟨p, p1, p9, ep⟩ | no
      case inr =>
        refine Or.inl ⟨τ2, σ2, i + l, by omega, ?_, kC_1 (nI i) t2' htx hn yM r7 (by omega) no, r7, F2, M2.fr⟩
        rw [go2]
        by_cases y : i + l < n
        · rw [hx_y y] at r4 no
          exact cL_bad hn y (by omega) (st1_f d1 r4 t1' no htx (by omega) (F2.tx htx xC))
        · rw [show i + l = n by omega, cL_end hn]
          exact fin_u d1 t1' _
      obtain ⟨i1, ep⟩ := hx_I (by omega) ep
      rw [hx_y i1] at r4
      obtain ⟨τ3, e3⟩ : ∃ x, x = su (su τ2 20 nc (nI p)) 17 8 2 := ⟨_, rfl⟩
      have F3 : FrC τ τ3 := by
        rw [e3]
        exact (F2.w (by omega) (by omega)).w (by omega) (by omega)
      have g1 : τ3.1 17 8 = nI 2 := by rw [e3, su_11, if_pos ⟨rfl, rfl⟩]; rfl
      have g6 : τ3.1 17 6 = nI nc := by rw [e3, su_11, if_neg (by omega), su_o (by omega)]; exact d6
      have go3 : cL tx n (f2 + 1) τ2 (i + l) = cL tx n f2 τ3 (i + l + 1) := by
        rw [e3]
        exact cL_go hn i1 (st1_y d1 r4 t1' ep p1 p9 d6 h8 htx (by omega) (F2.tx htx xC))
      obtain ⟨f2, rfl⟩ : ∃ x, f2 = x + 1 := ⟨f2 - 1, by omega⟩
      rcases fg_or (Nat.le_refl 1) (hx n T (i + l + 1)) with ⟨q, q1, q9, eq⟩ | no
      case inr =>
        refine Or.inl ⟨τ3, _, i + l + 1, by omega, ?_, kC_2 (nI i) t2' htx hn yM r7 i1 p1 p9 ep no, by rw [su_11, if_pos ⟨rfl, rfl⟩], F3, M2.fr.w0 (by omega)⟩
        rw [go2, go3]
        exact stopC hn g1 (by omega) (by omega) (by omega) (fun y => st2_n g1 (by rw [← hx_y (T := T) y]; exact no) htx (by omega) (F3.tx htx xC))
      obtain ⟨i2, eq⟩ := hx_I (by omega) eq
      obtain ⟨τ4, e4⟩ : ∃ x, x = su (su τ3 21 nc (nI q)) 17 8 3 := ⟨_, rfl⟩
      have F4 : FrC τ τ4 := by
        rw [e4]
        exact (F3.w (by omega) (by omega)).w (by omega) (by omega)
      have k1 : τ4.1 17 8 = nI 3 := by rw [e4, su_11, if_pos ⟨rfl, rfl⟩]; rfl
      have k6 : τ4.1 17 6 = nI nc := by rw [e4, su_11, if_neg (by omega), su_o (by omega)]; exact g6
      have go4 : cL tx n (f2 + 1) τ3 (i + l + 1) = cL tx n f2 τ4 (i + l + 1 + 1) := by
        rw [e4]
        exact cL_go hn i2 (st2_y g1 eq q1 q9 g6 h8 htx (by omega) (F3.tx htx xC))
      have FM : FrM σ (cS σ2 nc p q (i + l + 1 + 1)) := (((M2.fr.w0 (by omega)).w (by omega)).w (by omega)).w0 (by omega)
      have s22 : (cS σ2 nc p q (i + l + 1 + 1)).1 0 22 = nI (i + l + 1 + 1) := by
        unfold cS
        rw [su_11, if_neg (by omega), su_o (by omega), su_o (by omega), su_11, if_pos ⟨rfl, rfl⟩]
      have ky := kC_y (nI i) t2' htx hn yM r7 i2 d26 h8 p1 p9 ep q1 q9 eq
      obtain ⟨f2, rfl⟩ : ∃ x, f2 = x + 1 := ⟨f2 - 1, by omega⟩
      by_cases z5 : hx n T (i + l + 1 + 1) = 59
      case neg =>
        refine Or.inl ⟨τ4, _, i + l + 1 + 1, by omega, ?_, ky.trans ?_, s22, F4, FM⟩
        · rw [go2, go3, go4]
          exact stopC hn k1 (by omega) (by omega) (by omega) (fun y => st3_n k1 (by rw [← hx_y (T := T) y]; exact z5) htx (by omega) (F4.tx htx xC))
        · rw [endM_n htx hn (FM.tx xM) s22 (by omega) z5]
          rfl
      obtain ⟨i3, e59⟩ := hx_I (x := 59) (by omega) z5
      obtain ⟨τ5, e5⟩ : ∃ x, x = su (su τ4 17 6 (nI (nc + 1))) 17 8 0 := ⟨_, rfl⟩
      have gO : ∀ k, k ≠ 17 → k ≠ 20 → k ≠ 21 → τ5.1 k = τ2.1 k := fun k x y z => by rw [e5, su_o x, su_o x, e4, su_o x, su_o z, e3, su_o x, su_o y]
      have g20 : ∀ c, τ5.1 20 c = if c = nc then nI p else τ2.1 20 c := fun c => by
        rw [e5, su_o (by omega), su_o (by omega), e4, su_o (by omega), su_o (by omega), e3, su_o (by omega), su_11]
        by_cases y : c = nc
        · rw [if_pos ⟨rfl, y⟩, if_pos y]
        · rw [if_neg (by omega), if_neg y]
      have g21 : ∀ c, τ5.1 21 c = if c = nc then nI q else τ2.1 21 c := fun c => by
        rw [e5, su_o (by omega), su_o (by omega), e4, su_o (by omega), su_11]
        by_cases y : c = nc
        · rw [if_pos ⟨rfl, y⟩, if_pos y]
        · rw [if_neg (by omega), if_neg y, e3, su_o (by omega), su_o (by omega)]
      obtain ⟨σ5, e6⟩ : ∃ x, x = su (cS σ2 nc p q (i + l + 1 + 1)) 0 22 (nI (i + l + 1 + 1 + 1)) := ⟨_, rfl⟩
      have sO : ∀ k, k ≠ 0 → k ≠ 19 → k ≠ 20 → σ5.1 k = σ2.1 k := fun k x y z => by
        rw [e6]
        unfold cS
        rw [su_o x, su_o x, su_o z, su_o y, su_o x]
      have s19 : ∀ c, σ5.1 19 c = if c = nc then nI p else σ2.1 19 c := fun c => by
        rw [e6]
        unfold cS
        rw [su_o (by omega), su_o (by omega), su_o (by omega), su_11]
        by_cases y : c = nc
        · rw [if_pos ⟨rfl, y⟩, if_pos y]
        · rw [if_neg (by omega), if_neg y, su_o (by omega)]
      have s20 : ∀ c, σ5.1 20 c = if c = nc then nI q else σ2.1 20 c := fun c => by
        rw [e6]
        unfold cS
        rw [su_o (by omega), su_o (by omega), su_11]
        by_cases y : c = nc
        · rw [if_pos ⟨rfl, y⟩, if_pos y]
        · rw [if_neg (by omega), if_neg y, su_o (by omega), su_o (by omega)]
      refine Or.inr ⟨τ5, σ5, i + l + 1 + 1 + 1, f2, by omega, by omega, by omega, ?_, ky.trans ?_, ?_, ?_, ?_⟩
      · rw [go2, go3, go4, e5]
        exact cL_go hn i3 (st3_y k1 e59 k6 htx (by omega) (F4.tx htx xC))
      · rw [endM_y htx hn (FM.tx xM) s22 i3 e59, e6]
        rfl
      · rw [e5]
        exact (F4.w (by omega) (by omega)).w (by omega) (by omega)
      · rw [e6]
        exact FM.w0 (by omega)
      · have N5 : NmR T τ5 σ5 (i + l + 1 + 1 + 1) nc i l a := r8.fr (by omega) (by rw [gO 18 (by omega) (by omega) (by omega)]) (by rw [gO 19 (by omega) (by omega) (by omega)]) (fun j hj => by rw [sO 18 (by omega) (by omega) (by omega)])
        refine ⟨⟨b6, by omega, by omega⟩, ⟨?_, ?_, ?_⟩, ⟨?_, ?_, ?_⟩, ?_, ?_, ?_⟩
        · rw [e5, su_11, if_neg (by omega), su_11, if_neg (by omega), e4, su_11, if_neg (by omega), su_o (by omega), e3, su_11, if_neg (by omega), su_o (by omega)]
          exact d7
        · rw [e5, su_11, if_neg (by omega), su_11, if_pos ⟨rfl, rfl⟩]
        · rw [e5, su_11, if_pos ⟨rfl, rfl⟩]
          rfl
        · rw [e6, su_11, if_pos ⟨rfl, rfl⟩]
        · rw [e6]
          unfold cS
          rw [su_11, if_neg (by omega), su_11, if_neg (by omega), su_o (by omega), su_o (by omega), su_11, if_neg (by omega)]
          exact d23
        · rw [e6]
          unfold cS
          rw [su_11, if_neg (by omega), su_11, if_pos ⟨rfl, rfl⟩]
        · refine hH.fr (fun x hx => ?_) (fun x hx => ?_)
          · rw [gO 22 (by omega) (by omega) (by omega), gO 23 (by omega) (by omega) (by omega), dO 22 (by omega) (by omega) (by omega), dO 23 (by omega) (by omega) (by omega)]
            exact ⟨rfl, rfl⟩
          · rw [sO 16 (by omega) (by omega) (by omega), sO 17 (by omega) (by omega) (by omega), M2.1 16 (by omega) (by omega), M2.1 17 (by omega) (by omega)]
            exact ⟨rfl, rfl⟩
        · intro c hc
          by_cases y : c = nc
          · rw [y]
            refine ⟨⟨i, l, a, N5⟩, p, q, ⟨p1, p9, q1, q9⟩, ?_, ?_, ?_, ?_⟩
            · rw [g20, if_pos rfl]
            · rw [s19, if_pos rfl]
            · rw [g21, if_pos rfl]
            · rw [s20, if_pos rfl]
          · refine (hCo.fr (τ' := τ5) (σ' := σ5) (i' := i + l + 1 + 1 + 1) (by omega) (fun x hx => ⟨⟨?_, ?_⟩, ?_, ?_⟩) (fun k hk => ?_) (fun x hx => ⟨?_, ?_⟩)) c (by omega)
            · rw [gO 18 (by omega) (by omega) (by omega)]
              exact d18 x (by omega)
            · rw [gO 19 (by omega) (by omega) (by omega)]
              exact d19 x (by omega)
            · rw [g20, if_neg (by omega), dO 20 (by omega) (by omega) (by omega)]
            · rw [g21, if_neg (by omega), dO 21 (by omega) (by omega) (by omega)]
            · rw [sO 18 (by omega) (by omega) (by omega)]
              exact M2.2.2.1 k hk
            · rw [s19, if_neg (by omega), M2.1 19 (by omega) (by omega)]
            · rw [s20, if_neg (by omega), M2.1 20 (by omega) (by omega)]
        · intro c d hc hd
          rw [sO 18 (by omega) (by omega) (by omega)]
          by_cases y : d = nc
          · rw [y]
            exact t3 rfl c (by omega)
          · exact (hD.fr (fun k hk => M2.2.2.1 k hk)) c d hc (by omega)
theorem scanS {τ σ : St} {tx n : Nat} {T : Nat → Int32} (htx : tx < 4) (hn : n ≤ 90) (xC : TxC τ tx T) (xM : TxM σ tx n T) : ∀ (M i f g nh nc : Nat) (τ1 σ1 : St), n - i ≤ M → n - i < f → n - i < g → FrC τ τ1 → FrM σ σ1 → Inv n T τ1 σ1 nh nc i → ∃ τ' σ' r, cL tx n f τ1 i = some (τ', r) ∧ fX11_reads_L15 (nI tx) g σ1 (fun σ19 => some (σ19, σ19.1 0 22)) = some (σ', r) ∧ FrC τ τ' ∧ FrM σ σ' ∧ (r = -9 → ∃ nh nc, Inv n T τ' σ' nh nc n ∧ 2 ≤ nh ∧ 1 ≤ nc) := by
  intro M
  induction M with
  | zero =>
    intro i f g nh nc τ1 σ1 hM hf hg fC fM hI
    have hI' := hI
    obtain ⟨⟨b6, b8, bi⟩, ⟨c7, c6, c8⟩, ⟨m22, m23, m26⟩, -⟩ := hI'
    have yM := fM.tx xM
    have ei : i = n := by omega
    rw [ei] at hI m22 ⊢
    match f, g, hf, hg with
    | f + 1, g + 1, hf, hg =>
      rw [cL_end hn, fX11_reads_L15, rdM (show tx < LM 3 by show tx < 4; omega), yM.1, m22, if_pos (nI_le (Nat.le_refl n) (by omega)), jn_s, m23, m26, rdM (show tx < LM 3 by show tx < 4; omega), yM.1]
      unfold finC finK
      rw [c8, if_neg (show ¬ nI 0 = (1 : Int32) by decide), if_pos (show nI 0 = (0 : Int32) from rfl), c7, c6]
      by_cases z : nh < 2
      · rw [if_pos (show nI nh < (2 : Int32) from nI_lt (b := 2) z (by omega)), if_pos (show nI nh < (2 : Int32) from nI_lt (b := 2) z (by omega))]
        exact ⟨_, _, _, rfl, rfl, fC, fM, fun q => absurd q (nI_nneg (by omega) (by decide))⟩
      · rw [if_neg (show ¬ nI nh < (2 : Int32) from nI_nlt (b := 2) (by omega) (by omega)), if_neg (show ¬ nI nh < (2 : Int32) from nI_nlt (b := 2) (by omega) (by omega))]
        by_cases y : nc = 0
        · rw [y, if_neg (by decide), if_pos (show nI 0 = (0 : Int32) from rfl)]
          exact ⟨_, _, _, rfl, rfl, fC, fM, fun q => absurd q (nI_nneg (by omega) (by decide))⟩
        · rw [if_pos (show (1 : Int32) ≤ nI nc from nI_le (a := 1) (by omega) (by omega)), if_neg (nI_ne0 (by omega) (by omega))]
          exact ⟨_, _, _, rfl, rfl, fC, fM, fun _ => ⟨nh, nc, hI, by omega, by omega⟩⟩
  | succ M ih =>
    intro i f g nh nc τ1 σ1 hM hf hg fC fM hI
    by_cases le : n - i ≤ M
    · exact ih i f g nh nc τ1 σ1 le hf hg fC fM hI
    have hI' := hI
    obtain ⟨⟨b6, b8, bi⟩, ⟨c7, c6, c8⟩, ⟨m22, m23, m26⟩, hH, hCo, hD⟩ := hI'
    have yM := fM.tx xM
    have yC := fC.tx htx xC
    have hi : i < n := by omega
    have hr := hereM htx hn yM m22 bi
    rw [hx_y hi] at hr
    match g, hg with
    | g + 1, hg =>
      rw [fX11_reads_L15, rdM (show tx < LM 3 by show tx < 4; omega), yM.1, m22, if_neg (nI_ge hi (by omega)), hr, cl_s]
      by_cases z : T i = 32
      · rw [if_pos z, m22, pt_s, nI_1]
        match f, hf with
        | f + 1, hf =>
          have s0 := st0 (T := T) c8 htx (show i < 90 by omega) yC
          rw [if_pos z] at s0
          rw [cL_go hn hi s0]
          refine ih (i + 1) f g nh nc τ1 (su σ1 0 22 (nI (i + 1))) (by omega) (by omega) (by omega) fC (fM.w0 (by omega)) ⟨⟨b6, b8, by omega⟩, ⟨c7, c6, c8⟩, ⟨?_, ?_, ?_⟩, ?_, ?_, ?_⟩
          · rw [su_11, if_pos ⟨rfl, rfl⟩]
          · rw [su_11, if_neg (by omega)]
            exact m23
          · rw [su_11, if_neg (by omega)]
            exact m26
          · exact hH.fr (fun x hx => ⟨rfl, rfl⟩) (fun x hx => by
              rw [su_o (by omega), su_o (by omega)]
              exact ⟨rfl, rfl⟩)
          · exact hCo.fr (by omega) (fun x hx => ⟨⟨rfl, rfl⟩, rfl, rfl⟩) (fun k hk => by rw [su_o (by omega)]) (fun x hx => by
              rw [su_o (by omega), su_o (by omega)]
              exact ⟨rfl, rfl⟩)
          · exact hD.fr (fun k hk => by rw [su_o (by omega)])
      · rw [if_neg z, hr, cl_s, letterM, cl_s]
        rcases smL_or (T i) with ⟨w, hw, ew⟩ | no
        · rw [ew, sm_y hw, if_neg (show ¬ (1 : Int32) = 0 by decide)]
          rcases colIt htx hn yC yM hI hi hf hw ew with ⟨τ', σ', p, h1, h2, h3, h4, h5, h6⟩ | ⟨τ', σ', i', f', h1, h2, h3, h4, h5, h6, h7, h8⟩
          · rw [h3, cl_s, if_pos rfl, h4]
            exact ⟨_, _, _, h2, rfl, fC.trans h5, fM.trans h6, fun q => absurd q (nI_nneg (by omega) (by decide))⟩
          · rw [h5, cl_s, if_neg (show ¬ (1 : Int32) = 0 by decide), h4]
            exact ih i' f' g nh (nc + 1) τ' σ' (by omega) h3 (by omega) (fC.trans h6) (fM.trans h7) h8
        · rw [no, if_pos rfl]
          rcases houseIt htx hn yC yM hI hi hf z no with ⟨τ', σ', p, h1, h2, h3, h4, h5, h6⟩ | ⟨τ', σ', i', f', h1, h2, h3, h4, h5, h6, h7, h8⟩
          · rw [h3, cl_s, if_pos rfl, h4]
            exact ⟨_, _, _, h2, rfl, fC.trans h5, fM.trans h6, fun q => absurd q (nI_nneg (by omega) (by decide))⟩
          · rw [h5, cl_s, if_neg (show ¬ (1 : Int32) = 0 by decide), h4]
            exact ih i' f' g (nh + 1) nc τ' σ' (by omega) h3 (by omega) (fC.trans h6) (fM.trans h7) h8
theorem readsR {τ σ : St} {tx n : Nat} {T : Nat → Int32} (htx : tx < 4) (hn : n ≤ 90) (xC : TxC τ tx T) (xM : TxM σ tx n T) : ∃ τ' σ' r, fX8_read τ (13 + tx) (nI n) = some (τ', r) ∧ fX11_reads σ (nI tx) = some (σ', r) ∧ FrC τ τ' ∧ FrM σ σ' ∧ (r = -9 → ∃ nh nc, Inv n T τ' σ' nh nc n ∧ 2 ≤ nh ∧ 1 ≤ nc) := by
  have F : FrC τ (su (su (su τ 17 6 0) 17 7 0) 17 8 0) := (((FrC.rf τ).w (by omega) (by omega)).w (by omega) (by omega)).w (by omega) (by omega)
  have M : FrM σ (su (su (su σ 0 22 0) 0 23 0) 0 26 0) := (((FrM.rf σ).w0 (by omega)).w0 (by omega)).w0 (by omega)
  unfold fX8_read fX11_reads
  rw [pt_s, pt_s, pt_s, pt_s, pt_s, pt_s]
  show ∃ τ' σ' r, cL tx n 10000 (su (su (su τ 17 6 0) 17 7 0) 17 8 0) 0 = some (τ', r) ∧ fX11_reads_L15 (nI tx) 10000 (su (su (su σ 0 22 0) 0 23 0) 0 26 0) (fun σ19 => some (σ19, σ19.1 0 22)) = some (σ', r) ∧ FrC τ τ' ∧ FrM σ σ' ∧ (r = -9 → ∃ nh nc, Inv n T τ' σ' nh nc n ∧ 2 ≤ nh ∧ 1 ≤ nc)
  refine scanS htx hn xC xM n 0 10000 10000 0 0 _ _ (by omega) (by omega) (by omega) F M ⟨⟨by omega, by omega, by omega⟩, ⟨?_, ?_, ?_⟩, ⟨?_, ?_, ?_⟩, fun x hx => absurd hx (by omega), fun x hx => absurd hx (by omega), fun c d _ hd => absurd hd (by omega)⟩
  · rw [su_11, if_neg (by omega), su_11, if_pos ⟨rfl, rfl⟩]
    rfl
  · rw [su_11, if_neg (by omega), su_11, if_neg (by omega), su_11, if_pos ⟨rfl, rfl⟩]
    rfl
  · rw [su_11, if_pos ⟨rfl, rfl⟩]
    rfl
  · rw [su_11, if_neg (by omega), su_11, if_neg (by omega), su_11, if_pos ⟨rfl, rfl⟩]
    rfl
  · rw [su_11, if_neg (by omega), su_11, if_pos ⟨rfl, rfl⟩]
    rfl
  · rw [su_11, if_pos ⟨rfl, rfl⟩]
    rfl
theorem cellsOf10 (τ : St) {r : Nat} (hr : r < 4) : fX7_cellsOf_10 τ (nI r) = some (τ, 13 + r) := by
  unfold fX7_cellsOf_10
  rw [gd_inb hr (by omega), nI_clamp (by omega)]
theorem sizeOf10 (τ : St) {r : Nat} {x : Int32} (hr : r < 4) (e : τ.1 12 r = x) : fX7_sizeOf_10 τ (nI r) = some (τ, x) := by
  unfold fX7_sizeOf_10
  rw [rdC (show r < LC 12 from hr), e]
theorem s_fault (τ σ : St) (h : Rel τ σ) (a1 : Int32) : ∃ (τ' σ' : St) (r : Int32), fX10_fault τ a1 = some (τ', r) ∧ fX11_fault σ a1 = some (σ', r) ∧ Rel τ' σ' := by
  unfold fX10_fault fX11_fault
  rcases ix_cases a1 4 (by omega) with ⟨r, hr, rfl⟩ | hbad
  case inr =>
    rw [isOne10_no τ hbad, isText_no σ hbad]
    exact ⟨_, _, _, rfl, rfl, h⟩
  rw [isOne10_yes τ hr, isText_yes σ hr]
  simp only [cl_s, o10, if_false]
  obtain ⟨q1, q2, q3⟩ := h.2.2.1 r hr
  rw [rdM (show r < LM 3 from hr)]
  rcases q2 with q2 | ⟨n, hn, q2⟩
  · rw [miss10_y τ hr (q1.trans q2), q2, cl_s, if_neg (show ¬ (1 : Int32) = 0 by decide), if_neg (show ¬ (0 : Int32) ≤ -1 by decide), L_1, refu_ev τ (by omega), fnd_ev σ (by omega)]
    exact ⟨_, _, _, rfl, rfl, h.found (by omega)⟩
  · obtain ⟨τ', σ', x, e1, e2, e3, e4, -⟩ := readsR (τ := τ) (σ := σ) (T := τ.1 (13 + r)) hr hn (fun i _ => rfl) ⟨q2, fun i hi => (q3 i hi).symm⟩
    rw [miss10_n τ hr (by omega) (q1.trans q2), q2, cl_s, if_pos rfl, if_pos (nle0 (by omega)), cellsOf10 τ hr, cl_s, sizeOf10 τ hr (q1.trans q2), cl_s, e1, cl_s, e2, cl_s]
    exact ⟨_, _, _, rfl, rfl, h.fr (fun k hk => e3.1 k (by omega)) e3.2 (fun k a b c => e4.1 k a b) (fun j hj => e4.2.1 j hj) e4.2.2⟩
