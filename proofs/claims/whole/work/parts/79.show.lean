/-! what is shown of a town -/
def TV (τ σ : St) (P : Pl) (t : Tw) : Prop := PlanOk P ∧ PlC τ P ∧ PlM σ P ∧ TwOk P t ∧ TwC τ P t ∧ TwM (σ.1 10) t
theorem Rel.view {τ σ : St} (h : Rel τ σ) : ∃ (P : Pl) (t : Tw), TV τ σ P t := by
  obtain ⟨-, -, -, P, ds, n, a1, a0, a2, a3, a4, a5, a6, a7, a8⟩ := h
  exact ⟨P, rep P ds n, a1, a2, a3, repOk a1 a4 n (Nat.le_refl n), a5, a6⟩
def ow (t : Tw) (h c : Nat) : Int32 := if t (7 + 8 * h + c) = 0 then 0 else 1
theorem hasC {τ : St} {P : Pl} {t : Tw} (ht : TwOk P t) (hC : TwC τ P t) {h c : Nat} (hh : h < 6) (hc : c < 8) : fX9_has τ (nI h) (nI c) = some (τ, ow t h c) := by
  unfold fX9_has fX9_slot ow
  have e := endLe ht hh hc
  rw [cl_s, L_8, pk_mul, nI_add, rdC (show h * 8 + c < LC 34 by show _ < 48; omega), hC.2.2 (h * 8 + c) (by omega), show 7 + (h * 8 + c) = 7 + 8 * h + c by omega]
  by_cases q : t (7 + 8 * h + c) = 0
  · rw [q, if_pos rfl]
    rfl
  · rw [if_neg q, if_neg (show ¬ nI (t (7 + 8 * h + c)) = 0 from nI_ne0 (by omega) (by omega))]
theorem endC {τ : St} {P : Pl} {t : Tw} (hC : TwC τ P t) {h c : Nat} (hh : h < 6) (hc : c < 8) : fX9_endOf τ (nI h) (nI c) = some (τ, nI (t (7 + 8 * h + c))) := by
  unfold fX9_endOf fX9_slot
  rw [cl_s, L_8, pk_mul, nI_add, rdC (show h * 8 + c < LC 34 by show _ < 48; omega), hC.2.2 (h * 8 + c) (by omega), show 7 + (h * 8 + c) = 7 + 8 * h + c by omega]
theorem ownsM {σ : St} {P : Pl} {t : Tw} {k : Nat} (ht : TwOk P t) (hk : LM k = 55) (hM : TwM (σ.1 k) t) {h c : Nat} (hh : h < 6) (hc : c < 8) : fX11_owns σ k (nI h) (nI c) = some (σ, ow t h c) := by
  unfold fX11_owns ow
  have e := endLe ht hh hc
  rw [L_8, L_7, pk_mul, nI_add, nI_add, rdM (show 7 + 8 * h + c < LM k by omega), hM (7 + 8 * h + c) (by omega)]
  by_cases q : t (7 + 8 * h + c) = 0
  · rw [q, if_pos rfl]
    rfl
  · rw [if_neg q, if_neg (show ¬ nI (t (7 + 8 * h + c)) ≤ 0 from nI_nle (by omega) (by omega))]
theorem ow0 {t : Tw} {h c : Nat} : (ow t h c = 0) = (t (7 + 8 * h + c) = 0) := by
  unfold ow
  by_cases q : t (7 + 8 * h + c) = 0
  · rw [if_pos q]
    simp [q]
  · rw [if_neg q]
    simp [q]
theorem fo_congr {α : Type} {f g : α → Nat → α} : ∀ (m i : Nat) (a : α), (∀ a j, i ≤ j → j < i + m → f a j = g a j) → fo f i m a = fo g i m a := by
  intro m
  induction m with
  | zero => exact fun i a h => rfl
  | succ m ih =>
    intro i a h
    show fo f (i + 1) m (f a i) = fo g (i + 1) m (g a i)
    rw [h a i (by omega) (by omega)]
    exact ih (i + 1) _ (fun a j h1 h2 => h a j (by omega) (by omega))
def fHold (t : Tw) (c : Nat) (a : Int32) (i : Nat) : Int32 := if t (7 + 8 * i + c) = 0 then a else a + 1
theorem holdersC {τ σ : St} {P : Pl} {t : Tw} (hv : TV τ σ P t) {c : Nat} (hc : c < 8) : fX9_holders τ (nI c) = some (τ, fo (fHold t c) 0 (pH P) 0) := by
  obtain ⟨hP, hC, hM, ht, tC, tM⟩ := hv
  have h6 := hP.1
  unfold fX9_holders
  rw [show (0 : Int32) = nI 0 from rfl, aloop (fun n σ a i k => fX9_holders_L4 (nI c) n σ a i (fun σ a i => k σ a i)) (pH P) τ (fHold t c) (fun n a i k hi => ?_) (pH P) 0 10000 (nI 0) _ (by omega) (by omega)]
  rw [fX9_holders_L4, hC.1]
  by_cases q : pH P ≤ i
  · simp (disch := first | omega | (simp only [LCv_3, LCv_12, LCv_18, LCv_19, LCv_20, LCv_21, LCv_22, LCv_23, LCv_27, LCv_28, LCv_29, LCv_30, LCv_31, LCv_32, LCv_33, LCv_34, LCv_35, LCv_40, LCv_42, LCv_43, LCv_44, LCv_45, LCv_47, LCv_49, LCv_50, LCv_51, LMv_1, LMv_2, LMv_3, LMv_4, LMv_5, LMv_6, LMv_7, LMv_8, LMv_9, LMv_10, LMv_11, LMv_12, LMv_13, LMv_15, LMv_16, LMv_17, LMv_18, LMv_19, LMv_20, LMv_21, LMv_22, LMv_23, LMv_24]; omega) | assumption) only [cl_s, pt_s, pv_s, jn_s, L_0, L_1, L_2, L_3, L_4, L_5, L_6, L_7, L_8, L_9, L_10, L_11, L_12, L_16, L_20, L_21, L_25, L_26, L_31, L_40, L_41, L_48, L_55, L_56, L_57, L_58, L_59, L_60, L_61, L_63, L_90, L_97, L_99, L_100, L_122, L_343, L_600, L_999, L_1000, L_2200, L_2256, n_lt, n_le, n_eq, nI_add, pk_mul, rdC, rdM, wrC, wrM, gd_inb, gd_B0, gd_B1, if_pos, if_neg, if_true, if_false, ite_self, Nat.add_zero, Nat.zero_add]
  · rw [if_neg (nI_ge (by omega) (by omega)), if_neg q, hasC ht tC (by omega) hc, cl_s, pv_s, nI_1]
    unfold fHold
    simp only [ow0]
theorem nameSizeM {σ : St} {P : Pl} (hP : PlanOk P) (hM : PlM σ P) {c : Nat} (hc : c < pC P) : fX11_nameSize σ (nI c) = some (σ, nI (ln P c)) := by
  have h8 := hP.2.1
  obtain ⟨-, -, hl, hn⟩ := hP.2.2.2.2 c hc
  unfold fX11_nameSize
  have key : ∀ (m i fuel : Nat) (k : St → Int32 → Option (St × Int32)), i + m = ln P c → m < fuel → fX11_nameSize_L2 (nI c) fuel σ (nI i) k = k σ (nI (ln P c)) := by
    intro m
    induction m with
    | zero =>
      intro i fuel k hi hf
      match fuel, hf with
      | f + 1, _ =>
        rw [fX11_nameSize_L2]
        by_cases q : 7 ≤ i
        · rw [if_pos (show (7 : Int32) ≤ nI i from nI_le (a := 7) q (by omega)), show i = ln P c by omega]
        · rw [if_neg (show ¬ (7 : Int32) ≤ nI i from nI_ge (b := 7) (by omega) (by omega)), L_7, pk_mul, nI_add, rdM (show 7 * c + i < LM 7 by show _ < 56; omega), (hM.2.2.2 c hc).2.2 i (by omega), if_neg (show ¬ i < ln P c by omega), if_pos rfl, show i = ln P c by omega]
    | succ m ih =>
      intro i fuel k hi hf
      match fuel, hf with
      | f + 1, hf =>
        have := hn i (by omega)
        rw [fX11_nameSize_L2, if_neg (show ¬ (7 : Int32) ≤ nI i from nI_ge (b := 7) (by omega) (by omega)), L_7, pk_mul, nI_add, rdM (show 7 * c + i < LM 7 by show _ < 56; omega), (hM.2.2.2 c hc).2.2 i (by omega), if_pos (show i < ln P c by omega), if_neg (show ¬ nI (97 + nm P c i) = 0 from nI_ne0 (by omega) (by omega)), nI_1, ih (i + 1) f k (by omega) (by omega)]
  rw [show (0 : Int32) = nI 0 from rfl, key (ln P c) 0 10000 _ (by omega) (by omega)]
theorem s_thing (τ σ : St) (h : Rel τ σ) (a1 a2 : Int32) : ∃ (τ' σ' : St) (r : Int32), fX10_thing τ a1 a2 = some (τ', r) ∧ fX11_thing σ a1 a2 = some (σ', r) ∧ Rel τ' σ' := by
  obtain ⟨P, t, hP, hC, hM, ht, tC, tM⟩ := h.view
  have h6 := hP.1
  have h8 := hP.2.1
  unfold fX10_thing fX11_thing
  rcases ix_cases a1 (pH P) (by omega) with ⟨x, hx, rfl⟩ | hbad
  · rw [isHouseC_y hP hC hx, isHouseM_y hP hM hx]
    simp only [cl_s, o10, if_false]
    rcases ix_cases a2 (pC P) (by omega) with ⟨c, hc, rfl⟩ | hbad
    · rw [isColourC_y hP hC hc, isColourM_y hP hM hc]
      simp only [cl_s, o10, if_false]
      rw [hasC ht tC (by omega) (by omega), ownsM ht rfl tM (by omega) (by omega)]
      simp only [cl_s, ow0]
      by_cases q : t (7 + 8 * x + c) = 0
      · rw [if_pos q, if_pos q]
        exact ⟨_, _, _, rfl, rfl, h⟩
      · rw [if_neg q, if_neg q, paysC hP hC hx hc, L_8, L_7, pk_mul, nI_add, nI_add, rdM (show 7 + 8 * x + c < LM 10 by show _ < 55; omega), tM (7 + 8 * x + c) (by omega), paysM hP hM hx hc]
        simp only [cl_s, pt_s]
        unfold fX11_answer
        rw [endC (τ := su τ 0 11 (nI (pay (kd P x) (pr P c)))) (P := P) (t := t) (h := x) (c := c) tC (by omega) (by omega)]
        exact ⟨_, _, _, rfl, rfl, h.told _⟩
    · rw [isColourC_n hC hbad, isColourM_n hP hM hbad]
      exact ⟨_, _, _, rfl, rfl, h⟩
  · rw [isHouseC_n hC hbad, isHouseM_n hP hM hbad]
    exact ⟨_, _, _, rfl, rfl, h⟩
theorem in_out3 (σ : St) {x : Int32} (h : ¬ (((0 : Nat) : Int) ≤ x.toInt ∧ x.toInt ≤ (3 : Nat))) : fX11_in σ x.toInt64 0 3 = some (σ, nI 0) := in_out σ (a := 0) (n := 3) (by omega) (by omega) h
theorem in_yes3 (σ : St) {j : Nat} (h : j ≤ 3) : fX11_in σ (nI j).toInt64 0 3 = some (σ, 1) := in_yes σ (n := 3) h (by omega)
theorem toldM (σ : St) {P : Pl} {t : Tw} (hP : PlanOk P) (hM : PlM σ P) (ht : TwOk P t) (tM : TwM (σ.1 10) t) {c : Nat} (hc : c < pC P) (k : St → Int32 → Int32 → Option (St × Int32)) (p2 : Int32) : fX11_colourTold_L30 (nI c) p2 10000 σ 0 0 k = k σ (fo (fHold t c) 0 (pH P) 0) (nI (pH P)) := by
  have h6 := hP.1
  have h8 := hP.2.1
  rw [show (0 : Int32) = nI 0 from rfl, aloop (fun n σ a i k => fX11_colourTold_L30 (nI c) p2 n σ a i (fun σ a i => k σ a i)) (pH P) σ (fHold t c) (fun n a i k hi => ?_) (pH P) 0 10000 (nI 0) k (by omega) (by omega)]
  rw [fX11_colourTold_L30, hM.1]
  by_cases q : pH P ≤ i
  · simp (disch := first | omega | (simp only [LCv_3, LCv_12, LCv_18, LCv_19, LCv_20, LCv_21, LCv_22, LCv_23, LCv_27, LCv_28, LCv_29, LCv_30, LCv_31, LCv_32, LCv_33, LCv_34, LCv_35, LCv_40, LCv_42, LCv_43, LCv_44, LCv_45, LCv_47, LCv_49, LCv_50, LCv_51, LMv_1, LMv_2, LMv_3, LMv_4, LMv_5, LMv_6, LMv_7, LMv_8, LMv_9, LMv_10, LMv_11, LMv_12, LMv_13, LMv_15, LMv_16, LMv_17, LMv_18, LMv_19, LMv_20, LMv_21, LMv_22, LMv_23, LMv_24]; omega) | assumption) only [cl_s, pt_s, pv_s, jn_s, L_0, L_1, L_2, L_3, L_4, L_5, L_6, L_7, L_8, L_9, L_10, L_11, L_12, L_16, L_20, L_21, L_25, L_26, L_31, L_40, L_41, L_48, L_55, L_56, L_57, L_58, L_59, L_60, L_61, L_63, L_90, L_97, L_99, L_100, L_122, L_343, L_600, L_999, L_1000, L_2200, L_2256, n_lt, n_le, n_eq, nI_add, pk_mul, rdC, rdM, wrC, wrM, gd_inb, gd_B0, gd_B1, if_pos, if_neg, if_true, if_false, ite_self, Nat.add_zero, Nat.zero_add]
  · rw [if_neg (nI_ge (by omega) (by omega)), if_neg q, ownsM ht rfl tM (by omega) (by omega), cl_s, pv_s, nI_1]
    unfold fHold
    simp only [ow0]
    by_cases q2 : t (7 + 8 * i + c) = 0
    · rw [if_pos q2, if_pos q2, Int32.add_zero]
    · rw [if_neg q2, if_neg q2]
theorem tolds {τ σ : St} {P : Pl} {t : Tw} (hv : TV τ σ P t) {c j : Nat} (hc : c < pC P) (hj : j ≤ 3) : ∃ v, fX10_ofColour τ (nI c) (nI j) = some (τ, v) ∧ fX11_colourTold σ (nI c) (nI j) = some (σ, v) := by
  have hv' := hv
  obtain ⟨hP, hC, hM, ht, tC, tM⟩ := hv
  have h8 := hP.2.1
  obtain ⟨b1, b2, b3⟩ := hC.2.2.2 c hc
  obtain ⟨m1, m2, m3⟩ := hM.2.2.2 c hc
  unfold fX10_ofColour fX11_colourTold
  match j, hj with
  | 0, _ =>
    refine ⟨nI (pr P c), ?_, ?_⟩
    · simp (disch := first | omega | (simp only [LCv_3, LCv_12, LCv_18, LCv_19, LCv_20, LCv_21, LCv_22, LCv_23, LCv_27, LCv_28, LCv_29, LCv_30, LCv_31, LCv_32, LCv_33, LCv_34, LCv_35, LCv_40, LCv_42, LCv_43, LCv_44, LCv_45, LCv_47, LCv_49, LCv_50, LCv_51, LMv_1, LMv_2, LMv_3, LMv_4, LMv_5, LMv_6, LMv_7, LMv_8, LMv_9, LMv_10, LMv_11, LMv_12, LMv_13, LMv_15, LMv_16, LMv_17, LMv_18, LMv_19, LMv_20, LMv_21, LMv_22, LMv_23, LMv_24]; omega) | assumption) only [cl_s, pt_s, pv_s, jn_s, L_0, L_1, L_2, L_3, L_4, L_5, L_6, L_7, L_8, L_9, L_10, L_11, L_12, L_16, L_20, L_21, L_25, L_26, L_31, L_40, L_41, L_48, L_55, L_56, L_57, L_58, L_59, L_60, L_61, L_63, L_90, L_97, L_99, L_100, L_122, L_343, L_600, L_999, L_1000, L_2200, L_2256, n_lt, n_le, n_eq, nI_add, pk_mul, rdC, rdM, wrC, wrM, gd_inb, gd_B0, gd_B1, if_pos, if_neg, if_true, if_false, ite_self, Nat.add_zero, Nat.zero_add, b1]
    · simp (disch := first | omega | (simp only [LCv_3, LCv_12, LCv_18, LCv_19, LCv_20, LCv_21, LCv_22, LCv_23, LCv_27, LCv_28, LCv_29, LCv_30, LCv_31, LCv_32, LCv_33, LCv_34, LCv_35, LCv_40, LCv_42, LCv_43, LCv_44, LCv_45, LCv_47, LCv_49, LCv_50, LCv_51, LMv_1, LMv_2, LMv_3, LMv_4, LMv_5, LMv_6, LMv_7, LMv_8, LMv_9, LMv_10, LMv_11, LMv_12, LMv_13, LMv_15, LMv_16, LMv_17, LMv_18, LMv_19, LMv_20, LMv_21, LMv_22, LMv_23, LMv_24]; omega) | assumption) only [cl_s, pt_s, pv_s, jn_s, L_0, L_1, L_2, L_3, L_4, L_5, L_6, L_7, L_8, L_9, L_10, L_11, L_12, L_16, L_20, L_21, L_25, L_26, L_31, L_40, L_41, L_48, L_55, L_56, L_57, L_58, L_59, L_60, L_61, L_63, L_90, L_97, L_99, L_100, L_122, L_343, L_600, L_999, L_1000, L_2200, L_2256, n_lt, n_le, n_eq, nI_add, pk_mul, rdC, rdM, wrC, wrM, gd_inb, gd_B0, gd_B1, if_pos, if_neg, if_true, if_false, ite_self, Nat.add_zero, Nat.zero_add, m1]
  | 1, _ =>
    refine ⟨nI (la P c), ?_, ?_⟩
    · simp (disch := first | omega | (simp only [LCv_3, LCv_12, LCv_18, LCv_19, LCv_20, LCv_21, LCv_22, LCv_23, LCv_27, LCv_28, LCv_29, LCv_30, LCv_31, LCv_32, LCv_33, LCv_34, LCv_35, LCv_40, LCv_42, LCv_43, LCv_44, LCv_45, LCv_47, LCv_49, LCv_50, LCv_51, LMv_1, LMv_2, LMv_3, LMv_4, LMv_5, LMv_6, LMv_7, LMv_8, LMv_9, LMv_10, LMv_11, LMv_12, LMv_13, LMv_15, LMv_16, LMv_17, LMv_18, LMv_19, LMv_20, LMv_21, LMv_22, LMv_23, LMv_24]; omega) | assumption) only [cl_s, pt_s, pv_s, jn_s, L_0, L_1, L_2, L_3, L_4, L_5, L_6, L_7, L_8, L_9, L_10, L_11, L_12, L_16, L_20, L_21, L_25, L_26, L_31, L_40, L_41, L_48, L_55, L_56, L_57, L_58, L_59, L_60, L_61, L_63, L_90, L_97, L_99, L_100, L_122, L_343, L_600, L_999, L_1000, L_2200, L_2256, n_lt, n_le, n_eq, nI_add, pk_mul, rdC, rdM, wrC, wrM, gd_inb, gd_B0, gd_B1, if_pos, if_neg, if_true, if_false, ite_self, Nat.add_zero, Nat.zero_add, b2]
    · simp (disch := first | omega | (simp only [LCv_3, LCv_12, LCv_18, LCv_19, LCv_20, LCv_21, LCv_22, LCv_23, LCv_27, LCv_28, LCv_29, LCv_30, LCv_31, LCv_32, LCv_33, LCv_34, LCv_35, LCv_40, LCv_42, LCv_43, LCv_44, LCv_45, LCv_47, LCv_49, LCv_50, LCv_51, LMv_1, LMv_2, LMv_3, LMv_4, LMv_5, LMv_6, LMv_7, LMv_8, LMv_9, LMv_10, LMv_11, LMv_12, LMv_13, LMv_15, LMv_16, LMv_17, LMv_18, LMv_19, LMv_20, LMv_21, LMv_22, LMv_23, LMv_24]; omega) | assumption) only [cl_s, pt_s, pv_s, jn_s, L_0, L_1, L_2, L_3, L_4, L_5, L_6, L_7, L_8, L_9, L_10, L_11, L_12, L_16, L_20, L_21, L_25, L_26, L_31, L_40, L_41, L_48, L_55, L_56, L_57, L_58, L_59, L_60, L_61, L_63, L_90, L_97, L_99, L_100, L_122, L_343, L_600, L_999, L_1000, L_2200, L_2256, n_lt, n_le, n_eq, nI_add, pk_mul, rdC, rdM, wrC, wrM, gd_inb, gd_B0, gd_B1, if_pos, if_neg, if_true, if_false, ite_self, Nat.add_zero, Nat.zero_add, m2]
  | 2, _ =>
    refine ⟨fo (fHold t c) 0 (pH P) 0, ?_, ?_⟩
    · rw [if_neg (show ¬ nI 2 = (0 : Int32) by decide), if_neg (show ¬ nI 2 = (1 : Int32) by decide), if_pos (show nI 2 = (2 : Int32) from rfl), holdersC hv' (by omega)]
      rfl
    · rw [if_pos (show (2 : Int32) ≤ nI 2 by decide), toldM σ hP hM ht tM hc, if_pos (show nI 2 = (2 : Int32) from rfl)]
  | 3, _ =>
    refine ⟨nI (ln P c), ?_, ?_⟩
    · rw [if_neg (show ¬ nI 3 = (0 : Int32) by decide), if_neg (show ¬ nI 3 = (1 : Int32) by decide), if_neg (show ¬ nI 3 = (2 : Int32) by decide), rdC (show c < LC 28 by show c < 8; omega), b3.1]
    · rw [if_pos (show (2 : Int32) ≤ nI 3 by decide), toldM σ hP hM ht tM hc, if_neg (show ¬ nI 3 = (2 : Int32) by decide), nameSizeM hP hM hc]
      rfl
theorem s_colour (τ σ : St) (h : Rel τ σ) (a1 a2 : Int32) : ∃ (τ' σ' : St) (r : Int32), fX10_colour τ a1 a2 = some (τ', r) ∧ fX11_colour σ a1 a2 = some (σ', r) ∧ Rel τ' σ' := by
  obtain ⟨P, t, hv⟩ := h.view
  have hv' := hv
  obtain ⟨hP, hC, hM, ht, tC, tM⟩ := hv
  have h8 := hP.2.1
  unfold fX10_colour fX11_colour
  rcases ix_cases a1 (pC P) (by omega) with ⟨c, hc, rfl⟩ | hbad
  · rw [isColourC_y hP hC hc, isColourM_y hP hM hc]
    simp only [cl_s, o10, if_false]
    by_cases hin : ((0 : Nat) : Int) ≤ a2.toInt ∧ a2.toInt ≤ (3 : Nat)
    · obtain ⟨j, -, hj, rfl⟩ := between hin (by omega)
      obtain ⟨v, e1, e2⟩ := tolds hv' hc hj
      rw [if_neg (nI_pos (by omega)), if_pos (show nI j ≤ (3 : Int32) from nI_le (b := 3) hj (by omega)), in_yes3 σ hj]
      simp only [cl_s, o10, if_false]
      rw [e1, e2]
      exact ⟨_, _, _, rfl, rfl, h.told _⟩
    · rw [in_out3 σ hin]
      refine ⟨τ, σ, -1, ?_, rfl, h⟩
      by_cases h1 : a2 < 0
      · rw [if_pos h1]
      · rw [if_neg h1, if_neg]
        rw [i_lt] at h1
        rw [i_le]
        have e0 : (0 : Int32).toInt = 0 := rfl
        have e3 : (3 : Int32).toInt = 3 := rfl
        omega
  · rw [isColourC_n hC hbad, isColourM_n hP hM hbad]
    exact ⟨_, _, _, rfl, rfl, h⟩
theorem s_letter (τ σ : St) (h : Rel τ σ) (a1 a2 : Int32) : ∃ (τ' σ' : St) (r : Int32), fX10_letter τ a1 a2 = some (τ', r) ∧ fX11_letter σ a1 a2 = some (σ', r) ∧ Rel τ' σ' := by
  obtain ⟨P, t, hP, hC, hM, ht, tC, tM⟩ := h.view
  have h8 := hP.2.1
  unfold fX10_letter fX11_letter
  rcases ix_cases a1 (pC P) (by omega) with ⟨c, hc, rfl⟩ | hbad
  · obtain ⟨-, -, hl, hn⟩ := hP.2.2.2.2 c hc
    obtain ⟨b1, b2, b3, b4⟩ := hC.2.2.2 c hc
    obtain ⟨m1, m2, m3⟩ := hM.2.2.2 c hc
    rw [isColourC_y hP hC hc, isColourM_y hP hM hc]
    simp only [cl_s, o10, if_false]
    by_cases h0 : 0 ≤ a2
    · rw [if_pos h0, if_pos h0, nameSizeM hP hM hc, rdC (show c < LC 28 by show c < 8; omega), b3]
      simp only [cl_s]
      rcases ix_cases a2 (ln P c) (by omega) with ⟨j, hj, rfl⟩ | hb
      · rw [if_neg (nI_ge hj (by omega)), if_neg (nI_ge hj (by omega)), L_7, pk_mul, nI_add, pk_mul, nI_add, rdC (show c * 7 + j < LC 27 by show _ < 56; omega), rdM (show 7 * c + j < LM 7 by show _ < 56; omega), m3 j (by omega), if_pos hj, show c * 7 + j = 7 * c + j by omega, b4 j hj, L_97, nI_add]
        exact ⟨_, _, _, rfl, rfl, h⟩
      · have hge : nI (ln P c) ≤ a2 := hb.resolve_left (fun q => by rw [i_lt] at q; rw [i_le] at h0; omega)
        rw [if_pos hge, if_pos hge]
        exact ⟨_, _, _, rfl, rfl, h⟩
    · rw [if_neg h0, if_neg h0]
      exact ⟨_, _, _, rfl, rfl, h⟩
  · rw [isColourC_n hC hbad, isColourM_n hP hM hbad]
    exact ⟨_, _, _, rfl, rfl, h⟩
