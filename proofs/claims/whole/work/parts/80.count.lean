/-! house(), count() -/
theorem fo_shift {α : Type} {f g : α → Nat → α} (s : Nat) (h : ∀ a j, f a j = g a (j + s)) : ∀ (m i : Nat) (a : α), fo f i m a = fo g (i + s) m a := by
  intro m
  induction m with
  | zero => exact fun i a => rfl
  | succ m ih =>
    intro i a
    show fo f (i + 1) m (f a i) = fo g (i + s + 1) m (g a (i + s))
    rw [h a i, ih (i + 1), show i + 1 + s = i + s + 1 by omega]
theorem aloopL {α β : Type} (Lp : Nat → St → α → Int32 → (St → α → Int32 → Option β) → Option β) (lo e : Nat) (σ : St) (f : α → Nat → α) (hun : ∀ n a i k, lo ≤ i → i ≤ e → Lp (n + 1) σ a (nI i) k = if e ≤ i then k σ a (nI i) else Lp n σ (f a i) (nI (i + 1)) k) : ∀ (m i fuel : Nat) (a : α) (k : St → α → Int32 → Option β), lo ≤ i → i + m = e → m < fuel → Lp fuel σ a (nI i) k = k σ (fo f i m a) (nI e) := by
  intro m
  induction m with
  | zero =>
    intro i fuel a k hl hi hf
    match fuel, hf with
    | n + 1, _ =>
      rw [hun n a i k hl (by omega), if_pos (by omega), show i = e by omega]
      rfl
  | succ m ih =>
    intro i fuel a k hl hi hf
    match fuel, hf with
    | n + 1, hf =>
      rw [hun n a i k hl (by omega), if_neg (by omega), ih (i + 1) n _ k (by omega) (by omega) (by omega)]
      rfl
def fThing (t : Tw) (a : Int32) (i : Nat) : Int32 := if t (7 + i) = 0 then a else a + 1
theorem thingsC {τ : St} {P : Pl} {t : Tw} (ht : TwOk P t) (tC : TwC τ P t) : fX9_things τ = some (τ, fo (fThing t) 0 48 0) := by
  unfold fX9_things
  rw [show (0 : Int32) = nI 0 from rfl, aloop (fun n σ a i k => fX9_things_L4 n σ a i (fun σ a i => k σ a i)) 48 τ (fThing t) (fun n a i k hi => ?_) 48 0 10000 (nI 0) _ (by omega) (by omega)]
  rw [fX9_things_L4, LCv_34]
  by_cases q : 48 ≤ i
  · simp (disch := first | omega | (simp only [LCv_3, LCv_12, LCv_18, LCv_19, LCv_20, LCv_21, LCv_22, LCv_23, LCv_27, LCv_28, LCv_29, LCv_30, LCv_31, LCv_32, LCv_33, LCv_34, LCv_35, LCv_40, LCv_42, LCv_43, LCv_44, LCv_45, LCv_47, LCv_49, LCv_50, LCv_51, LMv_1, LMv_2, LMv_3, LMv_4, LMv_5, LMv_6, LMv_7, LMv_8, LMv_9, LMv_10, LMv_11, LMv_12, LMv_13, LMv_15, LMv_16, LMv_17, LMv_18, LMv_19, LMv_20, LMv_21, LMv_22, LMv_23, LMv_24]; omega) | assumption) only [cl_s, pt_s, pv_s, jn_s, L_0, L_1, L_2, L_3, L_4, L_5, L_6, L_7, L_8, L_9, L_10, L_11, L_12, L_16, L_20, L_21, L_25, L_26, L_31, L_40, L_41, L_48, L_55, L_56, L_57, L_58, L_59, L_60, L_61, L_63, L_90, L_97, L_99, L_100, L_122, L_343, L_600, L_999, L_1000, L_2200, L_2256, n_lt, n_le, n_eq, nI_add, pk_mul, rdC, rdM, wrC, wrM, gd_inb, gd_B0, gd_B1, if_pos, if_neg, if_true, if_false, ite_self, Nat.add_zero, Nat.zero_add]
  · have e := endLe ht (h := i / 8) (c := i % 8) (by omega) (by omega)
    rw [show 7 + 8 * (i / 8) + i % 8 = 7 + i by omega] at e
    rw [if_neg (nI_ge (by omega) (by omega)), if_neg q, rdC (show i < LC 34 by show i < 48; omega), tC.2.2 i (by omega), pv_s, nI_1]
    unfold fThing
    by_cases z : t (7 + i) = 0
    · rw [z, if_pos rfl]
      rfl
    · rw [if_neg z, if_neg (show ¬ nI (t (7 + i)) = 0 from nI_ne0 (by omega) (by omega))]
theorem thingsM {σ : St} {P : Pl} {t : Tw} (ht : TwOk P t) (tM : TwM (σ.1 10) t) : fX11_things σ = some (σ, fo (fThing t) 0 48 0) := by
  unfold fX11_things
  rw [show (0 : Int32) = nI 0 from rfl, L_7, aloopL (fun n σ a i k => fX11_things_L5 n σ a i (fun σ a i => k σ a i)) 7 55 σ (fun a i => fThing t a (i - 7)) (fun n a i k hl hi => ?_) 48 7 10000 (nI 0) _ (by omega) (by omega) (by omega)]
  · rw [fo_shift (f := fThing t) (g := fun a i => fThing t a (i - 7)) 7 (fun a j => by rw [Nat.add_sub_cancel]) 48 0]
  · rw [fX11_things_L5]
    by_cases q : 55 ≤ i
    · simp (disch := first | omega | (simp only [LCv_3, LCv_12, LCv_18, LCv_19, LCv_20, LCv_21, LCv_22, LCv_23, LCv_27, LCv_28, LCv_29, LCv_30, LCv_31, LCv_32, LCv_33, LCv_34, LCv_35, LCv_40, LCv_42, LCv_43, LCv_44, LCv_45, LCv_47, LCv_49, LCv_50, LCv_51, LMv_1, LMv_2, LMv_3, LMv_4, LMv_5, LMv_6, LMv_7, LMv_8, LMv_9, LMv_10, LMv_11, LMv_12, LMv_13, LMv_15, LMv_16, LMv_17, LMv_18, LMv_19, LMv_20, LMv_21, LMv_22, LMv_23, LMv_24]; omega) | assumption) only [cl_s, pt_s, pv_s, jn_s, L_0, L_1, L_2, L_3, L_4, L_5, L_6, L_7, L_8, L_9, L_10, L_11, L_12, L_16, L_20, L_21, L_25, L_26, L_31, L_40, L_41, L_48, L_55, L_56, L_57, L_58, L_59, L_60, L_61, L_63, L_90, L_97, L_99, L_100, L_122, L_343, L_600, L_999, L_1000, L_2200, L_2256, n_lt, n_le, n_eq, nI_add, pk_mul, rdC, rdM, wrC, wrM, gd_inb, gd_B0, gd_B1, if_pos, if_neg, if_true, if_false, ite_self, Nat.add_zero, Nat.zero_add]
    · have e := endLe ht (h := (i - 7) / 8) (c := (i - 7) % 8) (by omega) (by omega)
      rw [show 7 + 8 * ((i - 7) / 8) + (i - 7) % 8 = i by omega] at e
      rw [if_neg (show ¬ (55 : Int32) ≤ nI i from nI_ge (b := 55) (by omega) (by omega)), if_neg q, rdM (show i < LM 10 by show i < 55; omega), tM i (by omega), pv_s, nI_1]
      unfold fThing
      rw [show 7 + (i - 7) = i by omega]
      by_cases z : t i = 0
      · rw [z, if_pos (show nI 0 ≤ (0 : Int32) by decide), if_pos rfl, Int32.add_zero]
      · rw [if_neg z, if_neg (show ¬ nI (t i) ≤ 0 from nI_nle (by omega) (by omega))]
theorem sumC {τ : St} {P : Pl} {t : Tw} (hP : PlanOk P) (hC : PlC τ P) (tC : TwC τ P t) : fX9_allPurses τ = some (τ, fo (fun a i => a + nI (t (1 + i))) 0 (pH P) 0) := by
  have h6 := hP.1
  unfold fX9_allPurses
  rw [show (0 : Int32) = nI 0 from rfl, aloop (fun n σ a i k => fX9_allPurses_L4 n σ a i (fun σ a i => k σ a i)) (pH P) τ (fun a i => a + nI (t (1 + i))) (fun n a i k hi => ?_) (pH P) 0 10000 (nI 0) _ (by omega) (by omega)]
  rw [fX9_allPurses_L4, hC.1]
  by_cases q : pH P ≤ i
  · simp (disch := first | omega | (simp only [LCv_3, LCv_12, LCv_18, LCv_19, LCv_20, LCv_21, LCv_22, LCv_23, LCv_27, LCv_28, LCv_29, LCv_30, LCv_31, LCv_32, LCv_33, LCv_34, LCv_35, LCv_40, LCv_42, LCv_43, LCv_44, LCv_45, LCv_47, LCv_49, LCv_50, LCv_51, LMv_1, LMv_2, LMv_3, LMv_4, LMv_5, LMv_6, LMv_7, LMv_8, LMv_9, LMv_10, LMv_11, LMv_12, LMv_13, LMv_15, LMv_16, LMv_17, LMv_18, LMv_19, LMv_20, LMv_21, LMv_22, LMv_23, LMv_24]; omega) | assumption) only [cl_s, pt_s, pv_s, jn_s, L_0, L_1, L_2, L_3, L_4, L_5, L_6, L_7, L_8, L_9, L_10, L_11, L_12, L_16, L_20, L_21, L_25, L_26, L_31, L_40, L_41, L_48, L_55, L_56, L_57, L_58, L_59, L_60, L_61, L_63, L_90, L_97, L_99, L_100, L_122, L_343, L_600, L_999, L_1000, L_2200, L_2256, n_lt, n_le, n_eq, nI_add, pk_mul, rdC, rdM, wrC, wrM, gd_inb, gd_B0, gd_B1, if_pos, if_neg, if_true, if_false, ite_self, Nat.add_zero, Nat.zero_add]
  · rw [if_neg (nI_ge (by omega) (by omega)), if_neg q, rdC (show i < LC 33 by show i < 6; omega), tC.2.1 i (by omega), nI_1]
theorem sumM {σ : St} {P : Pl} {t : Tw} {k : Nat} (hP : PlanOk P) (hM : PlM σ P) (hk : LM k = 55) (tM : TwM (σ.1 k) t) : fX11_sum σ k = some (σ, fo (fun a i => a + nI (t (1 + i))) 0 (pH P) 0) := by
  have h6 := hP.1
  unfold fX11_sum
  rw [show (0 : Int32) = nI 0 from rfl, aloop (fun n σ a i k2 => fX11_sum_L4 k n σ a i (fun σ a i => k2 σ a i)) (pH P) σ (fun a i => a + nI (t (1 + i))) (fun n a i k2 hi => ?_) (pH P) 0 10000 (nI 0) _ (by omega) (by omega)]
  rw [fX11_sum_L4, hM.1]
  by_cases q : pH P ≤ i
  · simp (disch := first | omega | (simp only [LCv_3, LCv_12, LCv_18, LCv_19, LCv_20, LCv_21, LCv_22, LCv_23, LCv_27, LCv_28, LCv_29, LCv_30, LCv_31, LCv_32, LCv_33, LCv_34, LCv_35, LCv_40, LCv_42, LCv_43, LCv_44, LCv_45, LCv_47, LCv_49, LCv_50, LCv_51, LMv_1, LMv_2, LMv_3, LMv_4, LMv_5, LMv_6, LMv_7, LMv_8, LMv_9, LMv_10, LMv_11, LMv_12, LMv_13, LMv_15, LMv_16, LMv_17, LMv_18, LMv_19, LMv_20, LMv_21, LMv_22, LMv_23, LMv_24]; omega) | assumption) only [cl_s, pt_s, pv_s, jn_s, L_0, L_1, L_2, L_3, L_4, L_5, L_6, L_7, L_8, L_9, L_10, L_11, L_12, L_16, L_20, L_21, L_25, L_26, L_31, L_40, L_41, L_48, L_55, L_56, L_57, L_58, L_59, L_60, L_61, L_63, L_90, L_97, L_99, L_100, L_122, L_343, L_600, L_999, L_1000, L_2200, L_2256, n_lt, n_le, n_eq, nI_add, pk_mul, rdC, rdM, wrC, wrM, gd_inb, gd_B0, gd_B1, if_pos, if_neg, if_true, if_false, ite_self, Nat.add_zero, Nat.zero_add]
  · rw [if_neg (nI_ge (by omega) (by omega)), if_neg q, L_1, nI_add, rdM (show 1 + i < LM k by omega), tM (1 + i) (by omega), nI_add]
def fPres (f : Nat → Int32) (a : Int32) (i : Nat) : Int32 := if f i < 0 then a else a + 1
theorem nle_lt {x : Int32} : (0 ≤ x) = ¬ x < 0 := propext ⟨fun h q => by rw [i_le] at h; rw [i_lt] at q; omega, fun h => Int32.not_lt.mp h⟩
theorem presM {σ : St} {k n : Nat} (hn : n < 1000) (hk : n ≤ LM k) : fX11_there σ k (nI n) = some (σ, fo (fPres (σ.1 k)) 0 n 0) := by
  have hl := LM_lt k
  unfold fX11_there
  rw [show (0 : Int32) = nI 0 from rfl, aloop (fun m σ a i k2 => fX11_there_L4 k (nI n) m σ a i (fun σ a i => k2 σ a i)) n σ (fPres (σ.1 k)) (fun m a i k2 hi => ?_) n 0 10000 (nI 0) _ (by omega) (by omega)]
  rw [fX11_there_L4]
  by_cases q : n ≤ i
  · simp (disch := first | omega | (simp only [LCv_3, LCv_12, LCv_18, LCv_19, LCv_20, LCv_21, LCv_22, LCv_23, LCv_27, LCv_28, LCv_29, LCv_30, LCv_31, LCv_32, LCv_33, LCv_34, LCv_35, LCv_40, LCv_42, LCv_43, LCv_44, LCv_45, LCv_47, LCv_49, LCv_50, LCv_51, LMv_1, LMv_2, LMv_3, LMv_4, LMv_5, LMv_6, LMv_7, LMv_8, LMv_9, LMv_10, LMv_11, LMv_12, LMv_13, LMv_15, LMv_16, LMv_17, LMv_18, LMv_19, LMv_20, LMv_21, LMv_22, LMv_23, LMv_24]; omega) | assumption) only [cl_s, pt_s, pv_s, jn_s, L_0, L_1, L_2, L_3, L_4, L_5, L_6, L_7, L_8, L_9, L_10, L_11, L_12, L_16, L_20, L_21, L_25, L_26, L_31, L_40, L_41, L_48, L_55, L_56, L_57, L_58, L_59, L_60, L_61, L_63, L_90, L_97, L_99, L_100, L_122, L_343, L_600, L_999, L_1000, L_2200, L_2256, n_lt, n_le, n_eq, nI_add, pk_mul, rdC, rdM, wrC, wrM, gd_inb, gd_B0, gd_B1, if_pos, if_neg, if_true, if_false, ite_self, Nat.add_zero, Nat.zero_add]
  · rw [if_neg (nI_ge (by omega) (by omega)), if_neg q, rdM (show i < LM k by omega), pv_s, nI_1]
    unfold fPres
    by_cases z : σ.1 k i < 0
    · rw [if_pos z, if_neg (by rw [nle_lt]; exact fun h => h z), Int32.add_zero]
    · rw [if_neg z, if_pos (by rw [nle_lt]; exact z)]
theorem pres1C {τ : St} : fX7_present_1 τ = some (τ, fo (fPres (τ.1 3)) 0 6 0) := by
  unfold fX7_present_1
  rw [show (0 : Int32) = nI 0 from rfl, aloop (fun m σ a i k2 => fX7_present_1_L4 m σ a i (fun σ a i => k2 σ a i)) 6 τ (fPres (τ.1 3)) (fun m a i k2 hi => ?_) 6 0 10000 (nI 0) _ (by omega) (by omega)]
  rw [fX7_present_1_L4, LCv_3]
  by_cases q : 6 ≤ i
  · simp (disch := first | omega | (simp only [LCv_3, LCv_12, LCv_18, LCv_19, LCv_20, LCv_21, LCv_22, LCv_23, LCv_27, LCv_28, LCv_29, LCv_30, LCv_31, LCv_32, LCv_33, LCv_34, LCv_35, LCv_40, LCv_42, LCv_43, LCv_44, LCv_45, LCv_47, LCv_49, LCv_50, LCv_51, LMv_1, LMv_2, LMv_3, LMv_4, LMv_5, LMv_6, LMv_7, LMv_8, LMv_9, LMv_10, LMv_11, LMv_12, LMv_13, LMv_15, LMv_16, LMv_17, LMv_18, LMv_19, LMv_20, LMv_21, LMv_22, LMv_23, LMv_24]; omega) | assumption) only [cl_s, pt_s, pv_s, jn_s, L_0, L_1, L_2, L_3, L_4, L_5, L_6, L_7, L_8, L_9, L_10, L_11, L_12, L_16, L_20, L_21, L_25, L_26, L_31, L_40, L_41, L_48, L_55, L_56, L_57, L_58, L_59, L_60, L_61, L_63, L_90, L_97, L_99, L_100, L_122, L_343, L_600, L_999, L_1000, L_2200, L_2256, n_lt, n_le, n_eq, nI_add, pk_mul, rdC, rdM, wrC, wrM, gd_inb, gd_B0, gd_B1, if_pos, if_neg, if_true, if_false, ite_self, Nat.add_zero, Nat.zero_add]
  · rw [if_neg (nI_ge (by omega) (by omega)), if_neg q, rdC (show i < LC 3 by show i < 6; omega), pv_s, nI_1]
    rfl
theorem pres10C {τ : St} : fX7_present_10 τ = some (τ, fo (fPres (τ.1 12)) 0 4 0) := by
  unfold fX7_present_10
  rw [show (0 : Int32) = nI 0 from rfl, aloop (fun m σ a i k2 => fX7_present_10_L4 m σ a i (fun σ a i => k2 σ a i)) 4 τ (fPres (τ.1 12)) (fun m a i k2 hi => ?_) 4 0 10000 (nI 0) _ (by omega) (by omega)]
  rw [fX7_present_10_L4, LCv_12]
  by_cases q : 4 ≤ i
  · simp (disch := first | omega | (simp only [LCv_3, LCv_12, LCv_18, LCv_19, LCv_20, LCv_21, LCv_22, LCv_23, LCv_27, LCv_28, LCv_29, LCv_30, LCv_31, LCv_32, LCv_33, LCv_34, LCv_35, LCv_40, LCv_42, LCv_43, LCv_44, LCv_45, LCv_47, LCv_49, LCv_50, LCv_51, LMv_1, LMv_2, LMv_3, LMv_4, LMv_5, LMv_6, LMv_7, LMv_8, LMv_9, LMv_10, LMv_11, LMv_12, LMv_13, LMv_15, LMv_16, LMv_17, LMv_18, LMv_19, LMv_20, LMv_21, LMv_22, LMv_23, LMv_24]; omega) | assumption) only [cl_s, pt_s, pv_s, jn_s, L_0, L_1, L_2, L_3, L_4, L_5, L_6, L_7, L_8, L_9, L_10, L_11, L_12, L_16, L_20, L_21, L_25, L_26, L_31, L_40, L_41, L_48, L_55, L_56, L_57, L_58, L_59, L_60, L_61, L_63, L_90, L_97, L_99, L_100, L_122, L_343, L_600, L_999, L_1000, L_2200, L_2256, n_lt, n_le, n_eq, nI_add, pk_mul, rdC, rdM, wrC, wrM, gd_inb, gd_B0, gd_B1, if_pos, if_neg, if_true, if_false, ite_self, Nat.add_zero, Nat.zero_add]
  · rw [if_neg (nI_ge (by omega) (by omega)), if_neg q, rdC (show i < LC 12 by show i < 4; omega), pv_s, nI_1]
    rfl
theorem shelvedC {τ : St} : fX3_manyShelved τ = some (τ, fo (fPres (τ.1 40)) 0 3 0) := by
  unfold fX3_manyShelved
  rw [show (0 : Int32) = nI 0 from rfl, aloop (fun m σ a i k2 => fX3_manyShelved_L4 m σ a i (fun σ a i => k2 σ a i)) 3 τ (fPres (τ.1 40)) (fun m a i k2 hi => ?_) 3 0 10000 (nI 0) _ (by omega) (by omega)]
  rw [fX3_manyShelved_L4]
  by_cases q : 3 ≤ i
  · simp (disch := first | omega | (simp only [LCv_3, LCv_12, LCv_18, LCv_19, LCv_20, LCv_21, LCv_22, LCv_23, LCv_27, LCv_28, LCv_29, LCv_30, LCv_31, LCv_32, LCv_33, LCv_34, LCv_35, LCv_40, LCv_42, LCv_43, LCv_44, LCv_45, LCv_47, LCv_49, LCv_50, LCv_51, LMv_1, LMv_2, LMv_3, LMv_4, LMv_5, LMv_6, LMv_7, LMv_8, LMv_9, LMv_10, LMv_11, LMv_12, LMv_13, LMv_15, LMv_16, LMv_17, LMv_18, LMv_19, LMv_20, LMv_21, LMv_22, LMv_23, LMv_24]; omega) | assumption) only [cl_s, pt_s, pv_s, jn_s, L_0, L_1, L_2, L_3, L_4, L_5, L_6, L_7, L_8, L_9, L_10, L_11, L_12, L_16, L_20, L_21, L_25, L_26, L_31, L_40, L_41, L_48, L_55, L_56, L_57, L_58, L_59, L_60, L_61, L_63, L_90, L_97, L_99, L_100, L_122, L_343, L_600, L_999, L_1000, L_2200, L_2256, n_lt, n_le, n_eq, nI_add, pk_mul, rdC, rdM, wrC, wrM, gd_inb, gd_B0, gd_B1, if_pos, if_neg, if_true, if_false, ite_self, Nat.add_zero, Nat.zero_add]
  · rw [if_neg (show ¬ (3 : Int32) ≤ nI i from nI_ge (b := 3) (by omega) (by omega)), if_neg q, rdC (show i < LC 40 by show i < 3; omega), pv_s, nI_1]
    rfl
theorem kept_b {τ σ : St} {P : Pl} (hK : Kp τ σ P) {k : Nat} (hk : k < 3) : (τ.1 40 k < 0 ∧ σ.1 14 k = 0) ∨ (¬ τ.1 40 k < 0 ∧ ¬ σ.1 14 k = 0) := by
  rcases hK k hk with ⟨a, b⟩ | ⟨-, m, ds, d, a, b, -⟩
  · exact Or.inl ⟨by rw [a]; decide, b⟩
  · refine Or.inr ⟨by rw [a]; exact nI_pos (by have := d.1; omega), by rw [b]; decide⟩
def fKind (P : Pl) (x y : Nat) (a : Int32) (i : Nat) : Int32 := if kd P i = x ∨ kd P i = y then a + 1 else a
theorem manyC {τ : St} {P : Pl} (hP : PlanOk P) (hC : PlC τ P) (x y : Nat) (hxy : (x = 1 ∧ y = 4) ∨ (x = 2 ∧ y = 5)) : fX6_manyOf τ (nI x) = some (τ, fo (fKind P x y) 0 (pH P) 0) := by
  have h6 := hP.1
  unfold fX6_manyOf
  rw [show (0 : Int32) = nI 0 from rfl, aloop (fun m σ a i k2 => fX6_manyOf_L4 (nI x) m σ a i (fun σ a i => k2 σ a i)) (pH P) τ (fKind P x y) (fun m a i k2 hi => ?_) (pH P) 0 10000 (nI 0) _ (by omega) (by omega)]
  rw [fX6_manyOf_L4, hC.1]
  by_cases q : pH P ≤ i
  · simp (disch := first | omega | (simp only [LCv_3, LCv_12, LCv_18, LCv_19, LCv_20, LCv_21, LCv_22, LCv_23, LCv_27, LCv_28, LCv_29, LCv_30, LCv_31, LCv_32, LCv_33, LCv_34, LCv_35, LCv_40, LCv_42, LCv_43, LCv_44, LCv_45, LCv_47, LCv_49, LCv_50, LCv_51, LMv_1, LMv_2, LMv_3, LMv_4, LMv_5, LMv_6, LMv_7, LMv_8, LMv_9, LMv_10, LMv_11, LMv_12, LMv_13, LMv_15, LMv_16, LMv_17, LMv_18, LMv_19, LMv_20, LMv_21, LMv_22, LMv_23, LMv_24]; omega) | assumption) only [cl_s, pt_s, pv_s, jn_s, L_0, L_1, L_2, L_3, L_4, L_5, L_6, L_7, L_8, L_9, L_10, L_11, L_12, L_16, L_20, L_21, L_25, L_26, L_31, L_40, L_41, L_48, L_55, L_56, L_57, L_58, L_59, L_60, L_61, L_63, L_90, L_97, L_99, L_100, L_122, L_343, L_600, L_999, L_1000, L_2200, L_2256, n_lt, n_le, n_eq, nI_add, pk_mul, rdC, rdM, wrC, wrM, gd_inb, gd_B0, gd_B1, if_pos, if_neg, if_true, if_false, ite_self, Nat.add_zero, Nat.zero_add]
  · rw [if_neg (nI_ge (by omega) (by omega)), if_neg q, rdC (show i < LC 31 by show i < 6; omega), (hC.2.2.1 i (by omega)).1, nI_1]
    have hk := (hP.2.2.2.1 i (by omega)).1
    unfold fKind fX2_isOf
    revert hk
    generalize kd P i = z
    intro hk
    rcases hxy with ⟨rfl, rfl⟩ | ⟨rfl, rfl⟩ <;> (match z, hk with | 0, _ => rfl | 1, _ => rfl | 2, _ => rfl | 3, _ => rfl | 4, _ => rfl | 5, _ => rfl)
theorem manyM {σ : St} {P : Pl} (hP : PlanOk P) (hM : PlM σ P) (x y : Nat) (hxy : (x = 1 ∧ y = 4) ∨ (x = 2 ∧ y = 5)) : fX11_of σ (nI x) (nI y) = some (σ, fo (fKind P x y) 0 (pH P) 0) := by
  have h6 := hP.1
  unfold fX11_of
  rw [show (0 : Int32) = nI 0 from rfl, aloop (fun m σ a i k2 => fX11_of_L5 (nI x) (nI y) m σ a i (fun σ a i => k2 σ a i)) (pH P) σ (fKind P x y) (fun m a i k2 hi => ?_) (pH P) 0 10000 (nI 0) _ (by omega) (by omega)]
  rw [fX11_of_L5, hM.1]
  by_cases q : pH P ≤ i
  · simp (disch := first | omega | (simp only [LCv_3, LCv_12, LCv_18, LCv_19, LCv_20, LCv_21, LCv_22, LCv_23, LCv_27, LCv_28, LCv_29, LCv_30, LCv_31, LCv_32, LCv_33, LCv_34, LCv_35, LCv_40, LCv_42, LCv_43, LCv_44, LCv_45, LCv_47, LCv_49, LCv_50, LCv_51, LMv_1, LMv_2, LMv_3, LMv_4, LMv_5, LMv_6, LMv_7, LMv_8, LMv_9, LMv_10, LMv_11, LMv_12, LMv_13, LMv_15, LMv_16, LMv_17, LMv_18, LMv_19, LMv_20, LMv_21, LMv_22, LMv_23, LMv_24]; omega) | assumption) only [cl_s, pt_s, pv_s, jn_s, L_0, L_1, L_2, L_3, L_4, L_5, L_6, L_7, L_8, L_9, L_10, L_11, L_12, L_16, L_20, L_21, L_25, L_26, L_31, L_40, L_41, L_48, L_55, L_56, L_57, L_58, L_59, L_60, L_61, L_63, L_90, L_97, L_99, L_100, L_122, L_343, L_600, L_999, L_1000, L_2200, L_2256, n_lt, n_le, n_eq, nI_add, pk_mul, rdC, rdM, wrC, wrM, gd_inb, gd_B0, gd_B1, if_pos, if_neg, if_true, if_false, ite_self, Nat.add_zero, Nat.zero_add]
  · have hk := (hP.2.2.2.1 i (by omega)).1
    rw [if_neg (nI_ge (by omega) (by omega)), if_neg q, rdM (show i < LM 5 by show i < 6; omega), nI_1, jn_s, jn_s, rdM (show i < LM 5 by show i < 6; omega), (hM.2.2.1 i (by omega)).1]
    unfold fKind
    have e1 : (nI (kd P i) = nI x) = (kd P i = x) := n_eq (by omega) (by omega)
    have e2 : (nI (kd P i) = nI y) = (kd P i = y) := n_eq (by omega) (by omega)
    simp only [e1, e2]
    by_cases c1 : kd P i = x
    · rw [if_pos c1, if_pos (Or.inl c1)]
    · rw [if_neg c1]
      by_cases c2 : kd P i = y
      · rw [if_pos c2, if_pos (Or.inr c2)]
      · rw [if_neg c2, if_neg (fun h => h.elim c1 c2), Int32.add_zero]
theorem counts {τ σ : St} (h : Rel τ σ) {j : Nat} (hj : j ≤ 10) : ∃ v, fX10_tally τ (nI j) = some (τ, v) ∧ fX11_count σ (nI j) = some (σ, v) := by
  obtain ⟨hs, hr, hx, P, ds, n, hP, a0, hC, hM, hd, tC, tM, hD, hK⟩ := h
  have ht := repOk hP hd n (Nat.le_refl n)
  match j, hj with
  | 0, _ => exact ⟨_, by unfold fX10_tally; rw [hC.1]; rfl, by unfold fX11_count; rw [hM.1]; rfl⟩
  | 1, _ => exact ⟨_, by unfold fX10_tally; rw [hC.2.1]; rfl, by unfold fX11_count; rw [hM.2.1]; rfl⟩
  | 2, _ => exact ⟨_, by unfold fX10_tally; rw [tC.1]; rfl, by
      unfold fX11_count
      rw [show rd LM σ 10 0 = rd (β := St × Int32) LM σ 10 (nI 0) from rfl, rdM (show 0 < LM 10 by decide), tM 0 (by omega)]
      rfl⟩
  | 3, _ => exact ⟨_, by unfold fX10_tally; rw [hD.1]; rfl, by unfold fX11_count; rw [hD.2.1]; rfl⟩
  | 4, _ => exact ⟨_, by unfold fX10_tally; rw [thingsC ht tC]; rfl, by unfold fX11_count; rw [thingsM ht tM]; rfl⟩
  | 5, _ => exact ⟨_, by unfold fX10_tally; rw [sumC hP hC tC]; rfl, by unfold fX11_count; rw [sumM hP hM rfl tM]; rfl⟩
  | 6, _ => exact ⟨_, by unfold fX10_tally; rw [pres1C]; rfl, by
      unfold fX11_count
      rw [show fX11_there σ 1 6 = fX11_there σ 1 (nI 6) from rfl, presM (by omega) (by decide), fo_congr (g := fPres (τ.1 3)) 6 0 0 (fun a j _ h2 => by unfold fPres; rw [(hr j (by omega)).1])]
      rfl⟩
  | 7, _ => exact ⟨_, by unfold fX10_tally; rw [pres10C]; rfl, by
      unfold fX11_count
      rw [show fX11_there σ 3 4 = fX11_there σ 3 (nI 4) from rfl, presM (by omega) (by decide), fo_congr (g := fPres (τ.1 12)) 4 0 0 (fun a j _ h2 => by unfold fPres; rw [(hx j (by omega)).1])]
      rfl⟩
  | 8, _ =>
    refine ⟨_, by unfold fX10_tally; rw [shelvedC]; rfl, ?_⟩
    show pv (if σ.1 14 0 = 0 then (0 : Int32) else 1) (fun y11 => pv (if σ.1 14 1 = 0 then (0 : Int32) else 1) (fun y13 => pv (if σ.1 14 2 = 0 then (0 : Int32) else 1) (fun y15 => some (σ, (y11 + y13) + y15)))) = some (σ, fPres (τ.1 40) (fPres (τ.1 40) (fPres (τ.1 40) 0 0) 1) 2)
    unfold fPres
    rcases kept_b hK (k := 0) (by omega) with ⟨a1, b1⟩ | ⟨a1, b1⟩ <;> rcases kept_b hK (k := 1) (by omega) with ⟨a2, b2⟩ | ⟨a2, b2⟩ <;> rcases kept_b hK (k := 2) (by omega) with ⟨a3, b3⟩ | ⟨a3, b3⟩ <;> simp only [a1, a2, a3, b1, b2, b3, if_true, if_false, pv_s] <;> rfl
  | 9, _ => exact ⟨_, by unfold fX10_tally; rw [show fX6_manyOf τ 1 = fX6_manyOf τ (nI 1) from rfl, manyC hP hC 1 4 (Or.inl ⟨rfl, rfl⟩)]; rfl, by unfold fX11_count; rw [show fX11_of σ 1 4 = fX11_of σ (nI 1) (nI 4) from rfl, manyM hP hM 1 4 (Or.inl ⟨rfl, rfl⟩)]; rfl⟩
  | 10, _ => exact ⟨_, by unfold fX10_tally; rw [show fX6_manyOf τ 2 = fX6_manyOf τ (nI 2) from rfl, manyC hP hC 2 5 (Or.inr ⟨rfl, rfl⟩)]; rfl, by unfold fX11_count; rw [show fX11_of σ 2 5 = fX11_of σ (nI 2) (nI 5) from rfl, manyM hP hM 2 5 (Or.inr ⟨rfl, rfl⟩)]; rfl⟩
theorem s_count (τ σ : St) (h : Rel τ σ) (a1 : Int32) : ∃ (τ' σ' : St) (r : Int32), fX10_count τ a1 = some (τ', r) ∧ fX11_count σ a1 = some (σ', r) ∧ Rel τ' σ' := by
  unfold fX10_count
  by_cases hin : ((0 : Nat) : Int) ≤ a1.toInt ∧ a1.toInt ≤ (10 : Nat)
  · obtain ⟨j, -, hj, rfl⟩ := between hin (by omega)
    obtain ⟨v, e1, e2⟩ := counts h hj
    rw [if_neg (nI_pos (by omega)), if_pos (show nI j < (11 : Int32) from nI_lt (b := 11) (by omega) (by omega)), e1, e2]
    exact ⟨_, _, _, rfl, rfl, h⟩
  · refine ⟨τ, σ, -1, ?_, ?_, h⟩
    · by_cases h1 : a1 < 0
      · rw [if_pos h1]
      · rw [if_neg h1, if_neg]
        rw [i_lt] at h1 ⊢
        have e0 : (0 : Int32).toInt = 0 := rfl
        have e3 : (11 : Int32).toInt = 11 := rfl
        omega
    · unfold fX11_count
      have ne : ∀ c : Nat, c ≤ 10 → ¬ a1 = nI c := fun c hc e => hin (by rw [e, nI_toInt (by omega)]; omega)
      rw [if_neg (show ¬ a1 = (0 : Int32) from ne 0 (by omega)), if_neg (show ¬ a1 = (1 : Int32) from ne 1 (by omega)), if_neg (show ¬ a1 = (2 : Int32) from ne 2 (by omega)), if_neg (show ¬ a1 = (3 : Int32) from ne 3 (by omega)), if_neg (show ¬ a1 = (4 : Int32) from ne 4 (by omega)), if_neg (show ¬ a1 = (5 : Int32) from ne 5 (by omega)), if_neg (show ¬ a1 = (6 : Int32) from ne 6 (by omega)), if_neg (show ¬ a1 = (7 : Int32) from ne 7 (by omega)), if_neg (show ¬ a1 = (8 : Int32) from ne 8 (by omega)), if_neg (show ¬ a1 = (9 : Int32) from ne 9 (by omega)), if_neg (show ¬ a1 = (10 : Int32) from ne 10 (by omega))]
def fSet (t : Tw) (h : Nat) (a : Int32) (i : Nat) : Int32 := if t (7 + 8 * h + i) = 0 then a else a ||| (1 <<< (nI i &&& 31))
theorem setC {τ : St} {P : Pl} {t : Tw} (hP : PlanOk P) (hC : PlC τ P) (ht : TwOk P t) (tC : TwC τ P t) {h : Nat} (hh : h < 6) : fX9_coloursOf τ (nI h) = some (τ, fo (fSet t h) 0 (pC P) 0) := by
  have h8 := hP.2.1
  unfold fX9_coloursOf
  rw [show (0 : Int32) = nI 0 from rfl, aloop (fun n σ a i k => fX9_coloursOf_L4 (nI h) n σ a i (fun σ a i => k σ a i)) (pC P) τ (fSet t h) (fun n a i k hi => ?_) (pC P) 0 10000 (nI 0) _ (by omega) (by omega)]
  rw [fX9_coloursOf_L4, hC.2.1]
  by_cases q : pC P ≤ i
  · simp (disch := first | omega | (simp only [LCv_3, LCv_12, LCv_18, LCv_19, LCv_20, LCv_21, LCv_22, LCv_23, LCv_27, LCv_28, LCv_29, LCv_30, LCv_31, LCv_32, LCv_33, LCv_34, LCv_35, LCv_40, LCv_42, LCv_43, LCv_44, LCv_45, LCv_47, LCv_49, LCv_50, LCv_51, LMv_1, LMv_2, LMv_3, LMv_4, LMv_5, LMv_6, LMv_7, LMv_8, LMv_9, LMv_10, LMv_11, LMv_12, LMv_13, LMv_15, LMv_16, LMv_17, LMv_18, LMv_19, LMv_20, LMv_21, LMv_22, LMv_23, LMv_24]; omega) | assumption) only [cl_s, pt_s, pv_s, jn_s, L_0, L_1, L_2, L_3, L_4, L_5, L_6, L_7, L_8, L_9, L_10, L_11, L_12, L_16, L_20, L_21, L_25, L_26, L_31, L_40, L_41, L_48, L_55, L_56, L_57, L_58, L_59, L_60, L_61, L_63, L_90, L_97, L_99, L_100, L_122, L_343, L_600, L_999, L_1000, L_2200, L_2256, n_lt, n_le, n_eq, nI_add, pk_mul, rdC, rdM, wrC, wrM, gd_inb, gd_B0, gd_B1, if_pos, if_neg, if_true, if_false, ite_self, Nat.add_zero, Nat.zero_add]
  · rw [if_neg (nI_ge (by omega) (by omega)), if_neg q, hasC ht tC hh (by omega), cl_s, pv_s, nI_1]
    unfold fSet
    simp only [ow0]
theorem setM {σ : St} {P : Pl} {t : Tw} {k : Nat} (hP : PlanOk P) (hM : PlM σ P) (ht : TwOk P t) (hk : LM k = 55) (tM : TwM (σ.1 k) t) {h : Nat} (hh : h < 6) : fX11_ownSet σ k (nI h) = some (σ, fo (fSet t h) 0 (pC P) 0) := by
  have h8 := hP.2.1
  unfold fX11_ownSet
  rw [show (0 : Int32) = nI 0 from rfl, aloop (fun n σ a i k2 => fX11_ownSet_L5 k (nI h) n σ a i (fun σ a i => k2 σ a i)) (pC P) σ (fSet t h) (fun n a i k2 hi => ?_) (pC P) 0 10000 (nI 0) _ (by omega) (by omega)]
  rw [fX11_ownSet_L5, hM.2.1]
  by_cases q : pC P ≤ i
  · simp (disch := first | omega | (simp only [LCv_3, LCv_12, LCv_18, LCv_19, LCv_20, LCv_21, LCv_22, LCv_23, LCv_27, LCv_28, LCv_29, LCv_30, LCv_31, LCv_32, LCv_33, LCv_34, LCv_35, LCv_40, LCv_42, LCv_43, LCv_44, LCv_45, LCv_47, LCv_49, LCv_50, LCv_51, LMv_1, LMv_2, LMv_3, LMv_4, LMv_5, LMv_6, LMv_7, LMv_8, LMv_9, LMv_10, LMv_11, LMv_12, LMv_13, LMv_15, LMv_16, LMv_17, LMv_18, LMv_19, LMv_20, LMv_21, LMv_22, LMv_23, LMv_24]; omega) | assumption) only [cl_s, pt_s, pv_s, jn_s, L_0, L_1, L_2, L_3, L_4, L_5, L_6, L_7, L_8, L_9, L_10, L_11, L_12, L_16, L_20, L_21, L_25, L_26, L_31, L_40, L_41, L_48, L_55, L_56, L_57, L_58, L_59, L_60, L_61, L_63, L_90, L_97, L_99, L_100, L_122, L_343, L_600, L_999, L_1000, L_2200, L_2256, n_lt, n_le, n_eq, nI_add, pk_mul, rdC, rdM, wrC, wrM, gd_inb, gd_B0, gd_B1, if_pos, if_neg, if_true, if_false, ite_self, Nat.add_zero, Nat.zero_add]
  · rw [if_neg (nI_ge (by omega) (by omega)), if_neg q, ownsM ht hk tM hh (by omega), cl_s, pv_s, nI_1]
    unfold fSet
    simp only [ow0]
    by_cases z : t (7 + 8 * h + i) = 0
    · rw [if_pos z, if_pos z, Int32.or_zero]
    · rw [if_neg z, if_neg z]
theorem houses {τ σ : St} {P : Pl} {t : Tw} (hv : TV τ σ P t) {h j : Nat} (hh : h < pH P) (hj : j ≤ 3) : ∃ v, fX10_ofHouse τ (nI h) (nI j) = some (τ, v) ∧ fX11_houseTold σ (nI h) (nI j) = some (σ, v) := by
  obtain ⟨hP, hC, hM, ht, tC, tM⟩ := hv
  have h6 := hP.1
  unfold fX10_ofHouse fX11_houseTold
  match j, hj with
  | 0, _ =>
    refine ⟨nI (kd P h), ?_, ?_⟩
    · simp (disch := first | omega | (simp only [LCv_3, LCv_12, LCv_18, LCv_19, LCv_20, LCv_21, LCv_22, LCv_23, LCv_27, LCv_28, LCv_29, LCv_30, LCv_31, LCv_32, LCv_33, LCv_34, LCv_35, LCv_40, LCv_42, LCv_43, LCv_44, LCv_45, LCv_47, LCv_49, LCv_50, LCv_51, LMv_1, LMv_2, LMv_3, LMv_4, LMv_5, LMv_6, LMv_7, LMv_8, LMv_9, LMv_10, LMv_11, LMv_12, LMv_13, LMv_15, LMv_16, LMv_17, LMv_18, LMv_19, LMv_20, LMv_21, LMv_22, LMv_23, LMv_24]; omega) | assumption) only [cl_s, pt_s, pv_s, jn_s, L_0, L_1, L_2, L_3, L_4, L_5, L_6, L_7, L_8, L_9, L_10, L_11, L_12, L_16, L_20, L_21, L_25, L_26, L_31, L_40, L_41, L_48, L_55, L_56, L_57, L_58, L_59, L_60, L_61, L_63, L_90, L_97, L_99, L_100, L_122, L_343, L_600, L_999, L_1000, L_2200, L_2256, n_lt, n_le, n_eq, nI_add, pk_mul, rdC, rdM, wrC, wrM, gd_inb, gd_B0, gd_B1, if_pos, if_neg, if_true, if_false, ite_self, Nat.add_zero, Nat.zero_add, (hC.2.2.1 h hh).1]
    · simp (disch := first | omega | (simp only [LCv_3, LCv_12, LCv_18, LCv_19, LCv_20, LCv_21, LCv_22, LCv_23, LCv_27, LCv_28, LCv_29, LCv_30, LCv_31, LCv_32, LCv_33, LCv_34, LCv_35, LCv_40, LCv_42, LCv_43, LCv_44, LCv_45, LCv_47, LCv_49, LCv_50, LCv_51, LMv_1, LMv_2, LMv_3, LMv_4, LMv_5, LMv_6, LMv_7, LMv_8, LMv_9, LMv_10, LMv_11, LMv_12, LMv_13, LMv_15, LMv_16, LMv_17, LMv_18, LMv_19, LMv_20, LMv_21, LMv_22, LMv_23, LMv_24]; omega) | assumption) only [cl_s, pt_s, pv_s, jn_s, L_0, L_1, L_2, L_3, L_4, L_5, L_6, L_7, L_8, L_9, L_10, L_11, L_12, L_16, L_20, L_21, L_25, L_26, L_31, L_40, L_41, L_48, L_55, L_56, L_57, L_58, L_59, L_60, L_61, L_63, L_90, L_97, L_99, L_100, L_122, L_343, L_600, L_999, L_1000, L_2200, L_2256, n_lt, n_le, n_eq, nI_add, pk_mul, rdC, rdM, wrC, wrM, gd_inb, gd_B0, gd_B1, if_pos, if_neg, if_true, if_false, ite_self, Nat.add_zero, Nat.zero_add, (hM.2.2.1 h hh).1]
  | 1, _ =>
    refine ⟨nI (ic P h), ?_, ?_⟩
    · simp (disch := first | omega | (simp only [LCv_3, LCv_12, LCv_18, LCv_19, LCv_20, LCv_21, LCv_22, LCv_23, LCv_27, LCv_28, LCv_29, LCv_30, LCv_31, LCv_32, LCv_33, LCv_34, LCv_35, LCv_40, LCv_42, LCv_43, LCv_44, LCv_45, LCv_47, LCv_49, LCv_50, LCv_51, LMv_1, LMv_2, LMv_3, LMv_4, LMv_5, LMv_6, LMv_7, LMv_8, LMv_9, LMv_10, LMv_11, LMv_12, LMv_13, LMv_15, LMv_16, LMv_17, LMv_18, LMv_19, LMv_20, LMv_21, LMv_22, LMv_23, LMv_24]; omega) | assumption) only [cl_s, pt_s, pv_s, jn_s, L_0, L_1, L_2, L_3, L_4, L_5, L_6, L_7, L_8, L_9, L_10, L_11, L_12, L_16, L_20, L_21, L_25, L_26, L_31, L_40, L_41, L_48, L_55, L_56, L_57, L_58, L_59, L_60, L_61, L_63, L_90, L_97, L_99, L_100, L_122, L_343, L_600, L_999, L_1000, L_2200, L_2256, n_lt, n_le, n_eq, nI_add, pk_mul, rdC, rdM, wrC, wrM, gd_inb, gd_B0, gd_B1, if_pos, if_neg, if_true, if_false, ite_self, Nat.add_zero, Nat.zero_add, (hC.2.2.1 h hh).2]
    · simp (disch := first | omega | (simp only [LCv_3, LCv_12, LCv_18, LCv_19, LCv_20, LCv_21, LCv_22, LCv_23, LCv_27, LCv_28, LCv_29, LCv_30, LCv_31, LCv_32, LCv_33, LCv_34, LCv_35, LCv_40, LCv_42, LCv_43, LCv_44, LCv_45, LCv_47, LCv_49, LCv_50, LCv_51, LMv_1, LMv_2, LMv_3, LMv_4, LMv_5, LMv_6, LMv_7, LMv_8, LMv_9, LMv_10, LMv_11, LMv_12, LMv_13, LMv_15, LMv_16, LMv_17, LMv_18, LMv_19, LMv_20, LMv_21, LMv_22, LMv_23, LMv_24]; omega) | assumption) only [cl_s, pt_s, pv_s, jn_s, L_0, L_1, L_2, L_3, L_4, L_5, L_6, L_7, L_8, L_9, L_10, L_11, L_12, L_16, L_20, L_21, L_25, L_26, L_31, L_40, L_41, L_48, L_55, L_56, L_57, L_58, L_59, L_60, L_61, L_63, L_90, L_97, L_99, L_100, L_122, L_343, L_600, L_999, L_1000, L_2200, L_2256, n_lt, n_le, n_eq, nI_add, pk_mul, rdC, rdM, wrC, wrM, gd_inb, gd_B0, gd_B1, if_pos, if_neg, if_true, if_false, ite_self, Nat.add_zero, Nat.zero_add, (hM.2.2.1 h hh).2]
  | 2, _ =>
    refine ⟨nI (t (1 + h)), ?_, ?_⟩
    · simp (disch := first | omega | (simp only [LCv_3, LCv_12, LCv_18, LCv_19, LCv_20, LCv_21, LCv_22, LCv_23, LCv_27, LCv_28, LCv_29, LCv_30, LCv_31, LCv_32, LCv_33, LCv_34, LCv_35, LCv_40, LCv_42, LCv_43, LCv_44, LCv_45, LCv_47, LCv_49, LCv_50, LCv_51, LMv_1, LMv_2, LMv_3, LMv_4, LMv_5, LMv_6, LMv_7, LMv_8, LMv_9, LMv_10, LMv_11, LMv_12, LMv_13, LMv_15, LMv_16, LMv_17, LMv_18, LMv_19, LMv_20, LMv_21, LMv_22, LMv_23, LMv_24]; omega) | assumption) only [cl_s, pt_s, pv_s, jn_s, L_0, L_1, L_2, L_3, L_4, L_5, L_6, L_7, L_8, L_9, L_10, L_11, L_12, L_16, L_20, L_21, L_25, L_26, L_31, L_40, L_41, L_48, L_55, L_56, L_57, L_58, L_59, L_60, L_61, L_63, L_90, L_97, L_99, L_100, L_122, L_343, L_600, L_999, L_1000, L_2200, L_2256, n_lt, n_le, n_eq, nI_add, pk_mul, rdC, rdM, wrC, wrM, gd_inb, gd_B0, gd_B1, if_pos, if_neg, if_true, if_false, ite_self, Nat.add_zero, Nat.zero_add, tC.2.1 h hh]
    · simp (disch := first | omega | (simp only [LCv_3, LCv_12, LCv_18, LCv_19, LCv_20, LCv_21, LCv_22, LCv_23, LCv_27, LCv_28, LCv_29, LCv_30, LCv_31, LCv_32, LCv_33, LCv_34, LCv_35, LCv_40, LCv_42, LCv_43, LCv_44, LCv_45, LCv_47, LCv_49, LCv_50, LCv_51, LMv_1, LMv_2, LMv_3, LMv_4, LMv_5, LMv_6, LMv_7, LMv_8, LMv_9, LMv_10, LMv_11, LMv_12, LMv_13, LMv_15, LMv_16, LMv_17, LMv_18, LMv_19, LMv_20, LMv_21, LMv_22, LMv_23, LMv_24]; omega) | assumption) only [cl_s, pt_s, pv_s, jn_s, L_0, L_1, L_2, L_3, L_4, L_5, L_6, L_7, L_8, L_9, L_10, L_11, L_12, L_16, L_20, L_21, L_25, L_26, L_31, L_40, L_41, L_48, L_55, L_56, L_57, L_58, L_59, L_60, L_61, L_63, L_90, L_97, L_99, L_100, L_122, L_343, L_600, L_999, L_1000, L_2200, L_2256, n_lt, n_le, n_eq, nI_add, pk_mul, rdC, rdM, wrC, wrM, gd_inb, gd_B0, gd_B1, if_pos, if_neg, if_true, if_false, ite_self, Nat.add_zero, Nat.zero_add, tM (1 + h) (by omega)]
  | 3, _ =>
    refine ⟨fo (fSet t h) 0 (pC P) 0, ?_, ?_⟩
    · rw [if_neg (show ¬ nI 3 = (0 : Int32) by decide), if_neg (show ¬ nI 3 = (1 : Int32) by decide), if_neg (show ¬ nI 3 = (2 : Int32) by decide), setC hP hC ht tC (by omega)]
      rfl
    · rw [if_neg (show ¬ nI 3 = (0 : Int32) by decide), if_neg (show ¬ nI 3 = (1 : Int32) by decide), if_neg (show ¬ nI 3 = (2 : Int32) by decide), setM hP hM ht rfl tM (by omega)]
      rfl
theorem s_house (τ σ : St) (h : Rel τ σ) (a1 a2 : Int32) : ∃ (τ' σ' : St) (r : Int32), fX10_house τ a1 a2 = some (τ', r) ∧ fX11_house σ a1 a2 = some (σ', r) ∧ Rel τ' σ' := by
  obtain ⟨P, t, hv⟩ := h.view
  have hv' := hv
  obtain ⟨hP, hC, hM, ht, tC, tM⟩ := hv
  have h6 := hP.1
  unfold fX10_house fX11_house
  rcases ix_cases a1 (pH P) (by omega) with ⟨c, hc, rfl⟩ | hbad
  · rw [isHouseC_y hP hC hc, isHouseM_y hP hM hc]
    simp only [cl_s, o10, if_false]
    by_cases hin : ((0 : Nat) : Int) ≤ a2.toInt ∧ a2.toInt ≤ (3 : Nat)
    · obtain ⟨j, -, hj, rfl⟩ := between hin (by omega)
      obtain ⟨v, e1, e2⟩ := houses hv' hc hj
      rw [if_neg (nI_pos (by omega)), if_pos (show nI j ≤ (3 : Int32) from nI_le (b := 3) hj (by omega)), in_yes3 σ hj]
      simp only [cl_s, o10, if_false]
      rw [e1, e2]
      exact ⟨_, _, _, rfl, rfl, h.told _⟩
    · rw [in_out3 σ hin]
      refine ⟨τ, σ, -1, ?_, rfl, h⟩
      by_cases h1 : a2 < 0
      · rw [if_pos h1]
      · rw [if_neg h1, if_neg]
        rw [i_lt] at h1
        rw [i_le]
        have e0 : (0 : Int32).toInt = 0 := rfl
        have e3 : (3 : Int32).toInt = 3 := rfl
        omega
  · rw [isHouseC_n hC hbad, isHouseM_n hP hM hbad]
    exact ⟨_, _, _, rfl, rfl, h⟩
