/-! a town's text, item by item: both sides -/
def HsR (τ σ : St) (nh : Nat) : Prop := ∀ h, h < nh → ∃ k v : Nat, (k < 6 ∧ v ≤ 9) ∧ τ.1 22 h = nI k ∧ σ.1 16 h = nI k ∧ τ.1 23 h = nI v ∧ σ.1 17 h = nI v
def NmR (T : Nat → Int32) (τ σ : St) (i c s l : Nat) (a : Nat → Nat) : Prop := (1 ≤ l ∧ l ≤ 7 ∧ s + l ≤ i) ∧ τ.1 18 c = nI s ∧ τ.1 19 c = nI l ∧ (∀ j, j < l → a j ≤ 25 ∧ T (s + j) = nI (97 + a j)) ∧ ∀ j, j < 7 → σ.1 18 (7 * c + j) = nI (pd 97 l a j)
def PrR (τ σ : St) (c p q : Nat) : Prop := (1 ≤ p ∧ p ≤ 9 ∧ 1 ≤ q ∧ q ≤ 9) ∧ τ.1 20 c = nI p ∧ σ.1 19 c = nI p ∧ τ.1 21 c = nI q ∧ σ.1 20 c = nI q
def CoR (T : Nat → Int32) (τ σ : St) (i nc : Nat) : Prop := ∀ c, c < nc → (∃ s l a, NmR T τ σ i c s l a) ∧ ∃ p q, PrR τ σ c p q
def DsR (σ : St) (nc : Nat) : Prop := ∀ c d, c < d → d < nc → ∃ j, j < 7 ∧ ¬ σ.1 18 (7 * c + j) = σ.1 18 (7 * d + j)
def Inv (n : Nat) (T : Nat → Int32) (τ σ : St) (nh nc i : Nat) : Prop := (nh ≤ 6 ∧ nc ≤ 8 ∧ i ≤ n) ∧ (τ.1 17 7 = nI nh ∧ τ.1 17 6 = nI nc ∧ τ.1 17 8 = nI 0) ∧ (σ.1 0 22 = nI i ∧ σ.1 0 23 = nI nh ∧ σ.1 0 26 = nI nc) ∧ HsR τ σ nh ∧ CoR T τ σ i nc ∧ DsR σ nc
def FrC (τ τ' : St) : Prop := (∀ k, k < 17 ∨ 23 < k → τ'.1 k = τ.1 k) ∧ τ'.2 = τ.2
def FrM (σ σ' : St) : Prop := (∀ k, 1 ≤ k → k < 16 → σ'.1 k = σ.1 k) ∧ (∀ j, j < 22 → σ'.1 0 j = σ.1 0 j) ∧ σ'.2 = σ.2
theorem FrC.rf (τ : St) : FrC τ τ := ⟨fun _ _ => rfl, rfl⟩
theorem FrC.trans {a b c : St} (h : FrC a b) (g : FrC b c) : FrC a c := ⟨fun k x => (g.1 k x).trans (h.1 k x), g.2.trans h.2⟩
theorem FrC.w {τ ρ : St} (h : FrC τ ρ) {k i : Nat} {v : Int32} (a : 17 ≤ k) (b : k ≤ 23) : FrC τ (su ρ k i v) := h.trans ⟨fun j hj => su_o (by omega), rfl⟩
theorem FrC.tx {τ τ' : St} (h : FrC τ τ') {tx : Nat} {T : Nat → Int32} (htx : tx < 4) (x : TxC τ tx T) : TxC τ' tx T := fun i hi => by
  rw [h.1 (13 + tx) (by omega)]
  exact x i hi
theorem FrM.rf (σ : St) : FrM σ σ := ⟨fun _ _ _ => rfl, fun _ _ => rfl, rfl⟩
theorem FrM.trans {a b c : St} (h : FrM a b) (g : FrM b c) : FrM a c := ⟨fun k x y => (g.1 k x y).trans (h.1 k x y), fun j x => (g.2.1 j x).trans (h.2.1 j x), g.2.2.trans h.2.2⟩
theorem FrM.w {σ ρ : St} (h : FrM σ ρ) {k i : Nat} {v : Int32} (a : 16 ≤ k) : FrM σ (su ρ k i v) := h.trans ⟨fun j _ _ => su_o (by omega), fun j hj => by rw [su_11, if_neg (by omega)], rfl⟩
theorem FrM.w0 {σ ρ : St} (h : FrM σ ρ) {i : Nat} {v : Int32} (a : 22 ≤ i) : FrM σ (su ρ 0 i v) := h.trans ⟨fun j _ _ => su_o (by omega), fun j hj => by rw [su_11, if_neg (by omega)], rfl⟩
theorem FrM.tx {σ σ' : St} (h : FrM σ σ') {tx n : Nat} {T : Nat → Int32} (x : TxM σ tx n T) : TxM σ' tx n T := by
  unfold TxM
  rw [h.1 3 (by omega) (by omega), h.1 4 (by omega) (by omega)]
  exact x
theorem HsR.fr {τ σ τ' σ' : St} {nh : Nat} (h : HsR τ σ nh) (c : ∀ x, x < nh → τ'.1 22 x = τ.1 22 x ∧ τ'.1 23 x = τ.1 23 x) (m : ∀ x, x < nh → σ'.1 16 x = σ.1 16 x ∧ σ'.1 17 x = σ.1 17 x) : HsR τ' σ' nh := fun x hx => by
  rw [(c x hx).1, (c x hx).2, (m x hx).1, (m x hx).2]
  exact h x hx
theorem NmR.fr {T : Nat → Int32} {τ σ τ' σ' : St} {i i' c s l : Nat} {a : Nat → Nat} (h : NmR T τ σ i c s l a) (hi : i ≤ i') (c1 : τ'.1 18 c = τ.1 18 c) (c2 : τ'.1 19 c = τ.1 19 c) (m : ∀ j, j < 7 → σ'.1 18 (7 * c + j) = σ.1 18 (7 * c + j)) : NmR T τ' σ' i' c s l a := ⟨⟨h.1.1, h.1.2.1, Nat.le_trans h.1.2.2 hi⟩, c1.trans h.2.1, c2.trans h.2.2.1, h.2.2.2.1, fun j hj => (m j hj).trans (h.2.2.2.2 j hj)⟩
theorem CoR.fr {T : Nat → Int32} {τ σ τ' σ' : St} {i i' nc : Nat} (h : CoR T τ σ i nc) (hi : i ≤ i') (c : ∀ x, x < nc → (τ'.1 18 x = τ.1 18 x ∧ τ'.1 19 x = τ.1 19 x) ∧ τ'.1 20 x = τ.1 20 x ∧ τ'.1 21 x = τ.1 21 x) (m : ∀ q, q < 7 * nc → σ'.1 18 q = σ.1 18 q) (m2 : ∀ x, x < nc → σ'.1 19 x = σ.1 19 x ∧ σ'.1 20 x = σ.1 20 x) : CoR T τ' σ' i' nc := fun x hx => by
  obtain ⟨⟨s, l, a, g⟩, p, q, g2⟩ := h x hx
  refine ⟨⟨s, l, a, g.fr hi (c x hx).1.1 (c x hx).1.2 (fun j hj => m _ (by omega))⟩, p, q, ?_⟩
  unfold PrR
  rw [(c x hx).2.1, (c x hx).2.2, (m2 x hx).1, (m2 x hx).2]
  exact g2
theorem DsR.fr {σ σ' : St} {nc : Nat} (h : DsR σ nc) (m : ∀ q, q < 7 * nc → σ'.1 18 q = σ.1 18 q) : DsR σ' nc := fun c d hc hd => by
  obtain ⟨j, hj, ne⟩ := h c d hc hd
  refine ⟨j, hj, ?_⟩
  rw [m _ (by omega), m _ (by omega)]
  exact ne
def Fal (tx n f : Nat) (τ σ : St) (i : Nat) (R : Option (St × Int32)) : Prop := ∃ τ' σ' p, p ≤ n ∧ cL tx n f τ i = some (τ', nI p) ∧ R = some (σ', 0) ∧ σ'.1 0 22 = nI p ∧ FrC τ τ' ∧ FrM σ σ'
def Suc (T : Nat → Int32) (tx n f : Nat) (τ σ : St) (i : Nat) (R : Option (St × Int32)) (nh nc : Nat) : Prop := ∃ τ' σ' i' f', i < i' ∧ i' ≤ n ∧ n - i' < f' ∧ cL tx n f τ i = cL tx n f' τ' i' ∧ R = some (σ', 1) ∧ FrC τ τ' ∧ FrM σ σ' ∧ Inv n T τ' σ' nh nc i'
-- houses
def hS (σ : St) (nh k v i : Nat) : St := su (su (su (su σ 0 22 (nI i)) 16 nh (nI k)) 17 nh (nI v)) 0 23 (nI (nh + 1))
section HO
variable {σ : St} {tx n i nh : Nat} {T : Nat → Int32}
theorem rdH_k (htx : tx < 4) (hn : n ≤ 90) (hT : TxM σ tx n T) (hp : σ.1 0 22 = nI i) (hi : i < n) (e : kvB (T i) = -9) : fX11_readsHouse σ (nI tx) = some (σ, 0) := by
  unfold fX11_readsHouse
  rw [hereM htx hn hT hp (by omega), cl_s, hx_y hi, kindM, cl_s, if_pos e]
theorem rdH_6 (htx : tx < 4) (hn : n ≤ 90) (hT : TxM σ tx n T) (hp : σ.1 0 22 = nI i) (hi : i < n) {k : Nat} (k6 : k < 6) (e : kvB (T i) = nI k) (hh : σ.1 0 23 = nI 6) : fX11_readsHouse σ (nI tx) = some (σ, 0) := by
  unfold fX11_readsHouse
  rw [hereM htx hn hT hp (by omega), cl_s, hx_y hi, kindM, cl_s, e, if_neg (nI_nneg (by omega) (by decide)), hh, if_pos (show nI 6 = (6 : Int32) from rfl)]
theorem rdH_f (htx : tx < 4) (hn : n ≤ 90) (hT : TxM σ tx n T) (hp : σ.1 0 22 = nI i) (hi : i < n) {k : Nat} (k6 : k < 6) (e : kvB (T i) = nI k) (hh : σ.1 0 23 = nI nh) (h6 : nh < 6) (fg : fgB 0 (hx n T (i + 1)) = 0) : fX11_readsHouse σ (nI tx) = some (su σ 0 22 (nI (i + 1)), 0) := by
  have f := figM_n (σ := su σ 0 22 (nI (i + 1))) htx hn (((FrM.rf σ).w0 (by omega)).tx hT) (by rw [su_11, if_pos ⟨rfl, rfl⟩]) (show i + 1 ≤ n by omega) (show 0 ≤ 1 by omega) fg
  unfold fX11_readsHouse
  rw [hereM htx hn hT hp (by omega), cl_s, hx_y hi, kindM, cl_s, e, if_neg (nI_nneg (by omega) (by decide)), hh, if_neg (show ¬ nI nh = (6 : Int32) from nI_nq (b := 6) (by omega) (by omega) (by omega)), pt_s, hp, nI_1, show fX11_figure (su σ 0 22 (nI (i + 1))) (nI tx) 0 = _ from f, cl_s, if_pos rfl]
theorem rdH_y (htx : tx < 4) (hn : n ≤ 90) (hT : TxM σ tx n T) (hp : σ.1 0 22 = nI i) (hi : i + 1 < n) {k v : Nat} (k6 : k < 6) (e : kvB (T i) = nI k) (hh : σ.1 0 23 = nI nh) (h6 : nh < 6) (v9 : v ≤ 9) (fg : T (i + 1) = nI (48 + v)) : fX11_readsHouse σ (nI tx) = cl (fX11_ends (hS σ nh k v (i + 1 + 1)) (nI tx)) (fun σ12 r13 => gd (isB r13) (some (σ12, r13))) := by
  have f := figM_y (σ := su σ 0 22 (nI (i + 1))) (l := 0) htx hn (((FrM.rf σ).w0 (by omega)).tx hT) (by rw [su_11, if_pos ⟨rfl, rfl⟩]) hi (by omega) v9 fg
  have g1 : (su σ 0 22 (nI (i + 1 + 1))).1 0 23 = nI nh := by
    rw [su_11, if_neg (by omega)]
    exact hh
  have g2 : (su (su σ 0 22 (nI (i + 1 + 1))) 16 nh (nI k)).1 0 22 = nI (i + 1 + 1) := by
    rw [su_o (by omega), su_11, if_pos ⟨rfl, rfl⟩]
  have g3 : (su (su σ 0 22 (nI (i + 1 + 1))) 16 nh (nI k)).1 0 23 = nI nh := by
    rw [su_o (by omega)]
    exact g1
  have g4 : (su (su σ 0 22 (nI (i + 1 + 1))) 16 nh (nI k)).1 4 (90 * tx + (i + 1)) = nI (48 + v) := by
    rw [su_o (by omega), su_o (by omega), hT.2 (i + 1) (by omega), fg]
  have g5 : (su (su (su σ 0 22 (nI (i + 1 + 1))) 16 nh (nI k)) 17 nh (nI v)).1 0 23 = nI nh := by
    rw [su_o (by omega)]
    exact g3
  have g6 : nI 90 * nI tx + nI (i + 1 + 1) - 1 = nI (90 * tx + (i + 1)) := by
    rw [pk_mul, nI_add, show 90 * tx + (i + 1 + 1) = 90 * tx + (i + 1) + 1 by omega, nI_pred]
  unfold fX11_readsHouse
  rw [hereM htx hn hT hp (by omega), cl_s, hx_y (by omega), kindM, cl_s, e, if_neg (nI_nneg (by omega) (by decide)), hh, if_neg (show ¬ nI nh = (6 : Int32) from nI_nq (b := 6) (by omega) (by omega) (by omega)), pt_s, hp, nI_1, show fX11_figure (su σ 0 22 (nI (i + 1))) (nI tx) 0 = _ from f, cl_s, if_neg (show ¬ (1 : Int32) = 0 by decide), su_su, g1, wrM (show nh < LM 16 by show nh < 6; omega), g2, L_90, g6, rdM (show 90 * tx + (i + 1) < LM 4 by show _ < 360; omega), g4, g3, m48, wrM (show nh < LM 17 by show nh < 6; omega), pt_s, g5, nI_1]
  rfl
end HO
theorem houseIt {τ σ : St} {tx n i nh nc f : Nat} {T : Nat → Int32} (htx : tx < 4) (hn : n ≤ 90) (xC : TxC τ tx T) (xM : TxM σ tx n T) (hI : Inv n T τ σ nh nc i) (hi : i < n) (hf : n - i < f) (h32 : ¬ T i = 32) (hs : smB (T i) = 0) : Fal tx n f τ σ i (fX11_readsHouse σ (nI tx)) ∨ Suc T tx n f τ σ i (fX11_readsHouse σ (nI tx)) (nh + 1) nc := by
  obtain ⟨⟨b6, b8, bi⟩, ⟨c7, c6, c8⟩, ⟨m22, m23, m26⟩, hH, hCo, hD⟩ := hI
  match f, hf with
  | f + 1, hf =>
    rcases kv_or (T i) with k9 | ⟨k, k6, ek⟩
    · exact Or.inl ⟨τ, σ, i, by omega, cL_bad hn hi (by omega) (st0_k c8 h32 hs k9 htx (by omega) xC), rdH_k htx hn xM m22 hi k9, m22, FrC.rf τ, FrM.rf σ⟩
    · by_cases z : nh = 6
      · rw [z] at c7 m23
        exact Or.inl ⟨τ, σ, i, by omega, cL_bad hn hi (by omega) (st0_6 c8 h32 hs k6 ek c7 htx (by omega) xC), rdH_6 htx hn xM m22 hi k6 ek m23, m22, FrC.rf τ, FrM.rf σ⟩
      · have h6 : nh < 6 := by omega
        obtain ⟨τ1, e1⟩ : ∃ x, x = su (su τ 22 nh (nI k)) 17 8 4 := ⟨_, rfl⟩
        have F1 : FrC τ τ1 := by
          rw [e1]
          exact ((FrC.rf τ).w (by omega) (by omega)).w (by omega) (by omega)
        have a1 : τ1.1 17 8 = nI 4 := by rw [e1, su_11, if_pos ⟨rfl, rfl⟩]; rfl
        have a2 : τ1.1 17 7 = nI nh := by rw [e1, su_11, if_neg (by omega), su_o (by omega)]; exact c7
        have a3 : τ1.1 17 6 = nI nc := by rw [e1, su_11, if_neg (by omega), su_o (by omega)]; exact c6
        have go1 : cL tx n (f + 1) τ i = cL tx n f τ1 (i + 1) := by
          rw [e1]
          exact cL_go hn hi (st0_h c8 h32 hs k6 ek c7 h6 htx (by omega) xC)
        obtain ⟨f, rfl⟩ : ∃ x, f = x + 1 := ⟨f - 1, by omega⟩
        rcases fg_or (show 0 ≤ 1 by omega) (hx n T (i + 1)) with ⟨v, v0, v9, ev⟩ | no
        case inr =>
          refine Or.inl ⟨τ1, _, i + 1, by omega, ?_, rdH_f htx hn xM m22 hi k6 ek m23 h6 no, by rw [su_11, if_pos ⟨rfl, rfl⟩], F1, (FrM.rf σ).w0 (by omega)⟩
          rw [go1]
          exact stopC hn a1 (by omega) (by omega) (by omega) (fun q => st4_n a1 (by rw [← hx_y (T := T) q]; exact no) htx (by omega) (F1.tx htx xC))
        obtain ⟨i1, ev⟩ := hx_I (by omega) ev
        obtain ⟨τ2, e2⟩ : ∃ x, x = su (su τ1 23 nh (nI v)) 17 8 5 := ⟨_, rfl⟩
        have F2 : FrC τ τ2 := by
          rw [e2]
          exact (F1.w (by omega) (by omega)).w (by omega) (by omega)
        have d1 : τ2.1 17 8 = nI 5 := by rw [e2, su_11, if_pos ⟨rfl, rfl⟩]; rfl
        have d2 : τ2.1 17 7 = nI nh := by rw [e2, su_11, if_neg (by omega), su_o (by omega)]; exact a2
        have d3 : τ2.1 17 6 = nI nc := by rw [e2, su_11, if_neg (by omega), su_o (by omega)]; exact a3
        have go2 : cL tx n (f + 1) τ1 (i + 1) = cL tx n f τ2 (i + 1 + 1) := by
          rw [e2]
          exact cL_go hn i1 (st4_y a1 ev v9 a2 h6 htx (by omega) (F1.tx htx xC))
        have FM : FrM σ (hS σ nh k v (i + 1 + 1)) := ((((FrM.rf σ).w0 (by omega)).w (by omega)).w (by omega)).w0 (by omega)
        have s22 : (hS σ nh k v (i + 1 + 1)).1 0 22 = nI (i + 1 + 1) := by
          unfold hS
          rw [su_11, if_neg (by omega), su_o (by omega), su_o (by omega), su_11, if_pos ⟨rfl, rfl⟩]
        have rd := rdH_y htx hn xM m22 i1 k6 ek m23 h6 v9 ev
        obtain ⟨f, rfl⟩ : ∃ x, f = x + 1 := ⟨f - 1, by omega⟩
        by_cases z5 : hx n T (i + 1 + 1) = 59
        case neg =>
          refine Or.inl ⟨τ2, _, i + 1 + 1, by omega, ?_, rd.trans ?_, s22, F2, FM⟩
          · rw [go1, go2]
            exact stopC hn d1 (by omega) (by omega) (by omega) (fun q => st5_n d1 (by rw [← hx_y (T := T) q]; exact z5) htx (by omega) (F2.tx htx xC))
          · rw [endM_n htx hn (FM.tx xM) s22 (by omega) z5]
            rfl
        obtain ⟨i2, e59⟩ := hx_I (x := 59) (by omega) z5
        refine Or.inr ⟨su (su τ2 17 7 (nI (nh + 1))) 17 8 0, su (hS σ nh k v (i + 1 + 1)) 0 22 (nI (i + 1 + 1 + 1)), i + 1 + 1 + 1, f, by omega, by omega, by omega, ?_, rd.trans ?_, (F2.w (by omega) (by omega)).w (by omega) (by omega), FM.w0 (by omega), ?_⟩
        · rw [go1, go2]
          exact cL_go hn i2 (st5_y d1 e59 d2 htx (by omega) (F2.tx htx xC))
        · rw [endM_y htx hn (FM.tx xM) s22 i2 e59]
          rfl
        · refine ⟨⟨by omega, b8, by omega⟩, ⟨?_, ?_, ?_⟩, ⟨?_, ?_, ?_⟩, ?_, ?_, ?_⟩
          · rw [su_11, if_neg (by omega), su_11, if_pos ⟨rfl, rfl⟩]
          · rw [su_11, if_neg (by omega), su_11, if_neg (by omega)]
            exact d3
          · rw [su_11, if_pos ⟨rfl, rfl⟩]
            rfl
          · rw [su_11, if_pos ⟨rfl, rfl⟩]
          · unfold hS
            rw [su_11, if_neg (by omega), su_11, if_pos ⟨rfl, rfl⟩]
          · unfold hS
            rw [su_11, if_neg (by omega), su_11, if_neg (by omega), su_o (by omega), su_o (by omega), su_11, if_neg (by omega)]
            exact m26
          · intro x hx
            by_cases y : x = nh
            · refine ⟨k, v, ⟨k6, v9⟩, ?_, ?_, ?_, ?_⟩
              · rw [su_o (by omega), su_o (by omega), e2, su_o (by omega), su_o (by omega), e1, su_o (by omega), su_11, if_pos ⟨rfl, y⟩]
              · unfold hS
                rw [su_o (by omega), su_o (by omega), su_o (by omega), su_11, if_pos ⟨rfl, y⟩]
              · rw [su_o (by omega), su_o (by omega), e2, su_o (by omega), su_11, if_pos ⟨rfl, y⟩]
              · unfold hS
                rw [su_o (by omega), su_o (by omega), su_11, if_pos ⟨rfl, y⟩]
            · obtain ⟨k', v', h1, h2, h3, h4, h5⟩ := hH x (by omega)
              refine ⟨k', v', h1, ?_, ?_, ?_, ?_⟩
              · rw [su_o (by omega), su_o (by omega), e2, su_o (by omega), su_o (by omega), e1, su_o (by omega), su_11, if_neg (by omega)]
                exact h2
              · unfold hS
                rw [su_o (by omega), su_o (by omega), su_o (by omega), su_11, if_neg (by omega), su_o (by omega)]
                exact h3
              · rw [su_o (by omega), su_o (by omega), e2, su_o (by omega), su_11, if_neg (by omega), e1, su_o (by omega), su_o (by omega)]
                exact h4
              · unfold hS
                rw [su_o (by omega), su_o (by omega), su_11, if_neg (by omega), su_o (by omega), su_o (by omega)]
                exact h5
          · have eC : ∀ q, 18 ≤ q → q ≤ 21 → (su (su τ2 17 7 (nI (nh + 1))) 17 8 0).1 q = τ.1 q := fun q h1 h2 => by
              rw [su_o (by omega), su_o (by omega), e2, su_o (by omega), su_o (by omega), e1, su_o (by omega), su_o (by omega)]
            have eM : ∀ q, 18 ≤ q → (su (hS σ nh k v (i + 1 + 1)) 0 22 (nI (i + 1 + 1 + 1))).1 q = σ.1 q := fun q h1 => by
              unfold hS
              rw [su_o (by omega), su_o (by omega), su_o (by omega), su_o (by omega), su_o (by omega)]
            refine hCo.fr (by omega) (fun x hx => ?_) (fun q hq => ?_) (fun x hx => ?_)
            · rw [eC 18 (by omega) (by omega), eC 19 (by omega) (by omega), eC 20 (by omega) (by omega), eC 21 (by omega) (by omega)]
              exact ⟨⟨rfl, rfl⟩, rfl, rfl⟩
            · rw [eM 18 (by omega)]
            · rw [eM 19 (by omega), eM 20 (by omega)]
              exact ⟨rfl, rfl⟩
          · refine hD.fr (fun q hq => ?_)
            unfold hS
            rw [su_o (by omega), su_o (by omega), su_o (by omega), su_o (by omega), su_o (by omega)]
