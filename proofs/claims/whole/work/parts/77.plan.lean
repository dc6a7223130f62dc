/-! what a kind pays, has, gets: both classes -/
theorem k6 {P : Nat → Prop} (h0 : P 0) (h1 : P 1) (h2 : P 2) (h3 : P 3) (h4 : P 4) (h5 : P 5) {k : Nat} (hk : k < 6) : P k := by
  match k, hk with
  | 0, _ => exact h0
  | 1, _ => exact h1
  | 2, _ => exact h2
  | 3, _ => exact h3
  | 4, _ => exact h4
  | 5, _ => exact h5
theorem k9 {P : Nat → Prop} (h1 : P 1) (h2 : P 2) (h3 : P 3) (h4 : P 4) (h5 : P 5) (h6 : P 6) (h7 : P 7) (h8 : P 8) (h9 : P 9) {k : Nat} (a : 1 ≤ k) (b : k ≤ 9) : P k := by
  match k, a, b with
  | 1, _, _ => exact h1
  | 2, _, _ => exact h2
  | 3, _, _ => exact h3
  | 4, _, _ => exact h4
  | 5, _, _ => exact h5
  | 6, _, _ => exact h6
  | 7, _, _ => exact h7
  | 8, _, _ => exact h8
  | 9, _, _ => exact h9
theorem payC (σ : St) {k p : Nat} (hk : k < 6) (h1 : 1 ≤ p) (h9 : p ≤ 9) : fX2_pays σ (nI k) (nI p) = some (σ, nI (pay k p)) := by
  refine k6 (P := fun k => fX2_pays σ (nI k) (nI p) = some (σ, nI (pay k p))) ?_ ?_ ?_ ?_ ?_ ?_ hk
  all_goals exact k9 (P := fun p => fX2_pays σ (nI _) (nI p) = some (σ, nI (pay _ p))) rfl rfl rfl rfl rfl rfl rfl rfl rfl h1 h9
theorem payM (σ : St) {k p : Nat} (hk : k < 6) (h1 : 1 ≤ p) (h9 : p ≤ 9) : fX11_paysBy σ (nI k) (nI p) = some (σ, nI (pay k p)) := by
  refine k6 (P := fun k => fX11_paysBy σ (nI k) (nI p) = some (σ, nI (pay k p))) ?_ ?_ ?_ ?_ ?_ ?_ hk
  all_goals exact k9 (P := fun p => fX11_paysBy σ (nI _) (nI p) = some (σ, nI (pay _ p))) rfl rfl rfl rfl rfl rfl rfl rfl rfl h1 h9
theorem holdC (σ : St) {k p : Nat} (hk : k < 6) (h1 : 1 ≤ p) (h9 : p ≤ 9) : fX2_holds σ (nI k) (nI p) = some (σ, nI (hold k p)) := by
  refine k6 (P := fun k => fX2_holds σ (nI k) (nI p) = some (σ, nI (hold k p))) ?_ ?_ ?_ ?_ ?_ ?_ hk
  all_goals exact k9 (P := fun p => fX2_holds σ (nI _) (nI p) = some (σ, nI (hold _ p))) rfl rfl rfl rfl rfl rfl rfl rfl rfl h1 h9
theorem mn99 (x : Nat) : (if x < 99 then nI x else nI 99) = nI (min 99 x) := by
  by_cases h : x < 99
  · rw [if_pos h, Nat.min_eq_right (by omega)]
  · rw [if_neg h, Nat.min_eq_left (by omega)]
theorem lessM (σ : St) {x : Nat} (h : x < 2 ^ 31) : fX11_less σ (nI 99) (nI x) = some (σ, nI (min 99 x)) := by
  unfold fX11_less
  by_cases h9 : x ≤ 99
  · rw [if_pos (nI_le h9 (by omega)), Nat.min_eq_right h9]
  · rw [if_neg (nI_ge (by omega) (by omega)), Nat.min_eq_left (by omega)]
theorem nxtC (σ : St) {k i u : Nat} (hk : k < 6) (hi : i ≤ 9) (hu : u ≤ 99) : fX2_purseBehind σ (nI k) (nI i) (nI u) = some (σ, nI (nxt k i u)) := by
  unfold fX2_purseBehind nxt
  match k, hk with
  | 0, _ =>
    simp (disch := first | omega | (simp only [LCv_3, LCv_12, LCv_18, LCv_19, LCv_20, LCv_21, LCv_22, LCv_23, LCv_27, LCv_28, LCv_29, LCv_30, LCv_31, LCv_32, LCv_33, LCv_34, LCv_35, LCv_40, LCv_42, LCv_43, LCv_44, LCv_45, LCv_47, LCv_49, LCv_50, LCv_51, LMv_1, LMv_2, LMv_3, LMv_4, LMv_5, LMv_6, LMv_7, LMv_8, LMv_9, LMv_10, LMv_11, LMv_12, LMv_13, LMv_15, LMv_16, LMv_17, LMv_18, LMv_19, LMv_20, LMv_21, LMv_22, LMv_23, LMv_24]; omega) | assumption) only [cl_s, pt_s, pv_s, jn_s, L_0, L_1, L_2, L_3, L_4, L_5, L_6, L_7, L_8, L_9, L_10, L_11, L_12, L_16, L_20, L_21, L_25, L_26, L_31, L_40, L_41, L_48, L_55, L_56, L_57, L_58, L_59, L_60, L_61, L_63, L_90, L_97, L_99, L_100, L_122, L_343, L_600, L_999, L_1000, L_2200, L_2256, n_lt, n_le, n_eq, nI_add, pk_mul, rdC, rdM, wrC, wrM, gd_inb, gd_B0, gd_B1, if_pos, if_neg, if_true, if_false, ite_self, Nat.add_zero, Nat.zero_add, pk_div, mn99]
    rw [Nat.min_eq_right (by omega)]
  | 1, _ => simp (disch := first | omega | (simp only [LCv_3, LCv_12, LCv_18, LCv_19, LCv_20, LCv_21, LCv_22, LCv_23, LCv_27, LCv_28, LCv_29, LCv_30, LCv_31, LCv_32, LCv_33, LCv_34, LCv_35, LCv_40, LCv_42, LCv_43, LCv_44, LCv_45, LCv_47, LCv_49, LCv_50, LCv_51, LMv_1, LMv_2, LMv_3, LMv_4, LMv_5, LMv_6, LMv_7, LMv_8, LMv_9, LMv_10, LMv_11, LMv_12, LMv_13, LMv_15, LMv_16, LMv_17, LMv_18, LMv_19, LMv_20, LMv_21, LMv_22, LMv_23, LMv_24]; omega) | assumption) only [cl_s, pt_s, pv_s, jn_s, L_0, L_1, L_2, L_3, L_4, L_5, L_6, L_7, L_8, L_9, L_10, L_11, L_12, L_16, L_20, L_21, L_25, L_26, L_31, L_40, L_41, L_48, L_55, L_56, L_57, L_58, L_59, L_60, L_61, L_63, L_90, L_97, L_99, L_100, L_122, L_343, L_600, L_999, L_1000, L_2200, L_2256, n_lt, n_le, n_eq, nI_add, pk_mul, rdC, rdM, wrC, wrM, gd_inb, gd_B0, gd_B1, if_pos, if_neg, if_true, if_false, ite_self, Nat.add_zero, Nat.zero_add, pk_div, mn99]
  | 2, _ =>
    simp (disch := first | omega | (simp only [LCv_3, LCv_12, LCv_18, LCv_19, LCv_20, LCv_21, LCv_22, LCv_23, LCv_27, LCv_28, LCv_29, LCv_30, LCv_31, LCv_32, LCv_33, LCv_34, LCv_35, LCv_40, LCv_42, LCv_43, LCv_44, LCv_45, LCv_47, LCv_49, LCv_50, LCv_51, LMv_1, LMv_2, LMv_3, LMv_4, LMv_5, LMv_6, LMv_7, LMv_8, LMv_9, LMv_10, LMv_11, LMv_12, LMv_13, LMv_15, LMv_16, LMv_17, LMv_18, LMv_19, LMv_20, LMv_21, LMv_22, LMv_23, LMv_24]; omega) | assumption) only [cl_s, pt_s, pv_s, jn_s, L_0, L_1, L_2, L_3, L_4, L_5, L_6, L_7, L_8, L_9, L_10, L_11, L_12, L_16, L_20, L_21, L_25, L_26, L_31, L_40, L_41, L_48, L_55, L_56, L_57, L_58, L_59, L_60, L_61, L_63, L_90, L_97, L_99, L_100, L_122, L_343, L_600, L_999, L_1000, L_2200, L_2256, n_lt, n_le, n_eq, nI_add, pk_mul, rdC, rdM, wrC, wrM, gd_inb, gd_B0, gd_B1, if_pos, if_neg, if_true, if_false, ite_self, Nat.add_zero, Nat.zero_add, pk_div, mn99]
    rw [Nat.min_eq_right (by omega)]
  | 3, _ =>
    simp (disch := first | omega | (simp only [LCv_3, LCv_12, LCv_18, LCv_19, LCv_20, LCv_21, LCv_22, LCv_23, LCv_27, LCv_28, LCv_29, LCv_30, LCv_31, LCv_32, LCv_33, LCv_34, LCv_35, LCv_40, LCv_42, LCv_43, LCv_44, LCv_45, LCv_47, LCv_49, LCv_50, LCv_51, LMv_1, LMv_2, LMv_3, LMv_4, LMv_5, LMv_6, LMv_7, LMv_8, LMv_9, LMv_10, LMv_11, LMv_12, LMv_13, LMv_15, LMv_16, LMv_17, LMv_18, LMv_19, LMv_20, LMv_21, LMv_22, LMv_23, LMv_24]; omega) | assumption) only [cl_s, pt_s, pv_s, jn_s, L_0, L_1, L_2, L_3, L_4, L_5, L_6, L_7, L_8, L_9, L_10, L_11, L_12, L_16, L_20, L_21, L_25, L_26, L_31, L_40, L_41, L_48, L_55, L_56, L_57, L_58, L_59, L_60, L_61, L_63, L_90, L_97, L_99, L_100, L_122, L_343, L_600, L_999, L_1000, L_2200, L_2256, n_lt, n_le, n_eq, nI_add, pk_mul, rdC, rdM, wrC, wrM, gd_inb, gd_B0, gd_B1, if_pos, if_neg, if_true, if_false, ite_self, Nat.add_zero, Nat.zero_add, pk_div, mn99]
    rw [Nat.min_eq_right (by omega)]
  | 4, _ => simp (disch := first | omega | (simp only [LCv_3, LCv_12, LCv_18, LCv_19, LCv_20, LCv_21, LCv_22, LCv_23, LCv_27, LCv_28, LCv_29, LCv_30, LCv_31, LCv_32, LCv_33, LCv_34, LCv_35, LCv_40, LCv_42, LCv_43, LCv_44, LCv_45, LCv_47, LCv_49, LCv_50, LCv_51, LMv_1, LMv_2, LMv_3, LMv_4, LMv_5, LMv_6, LMv_7, LMv_8, LMv_9, LMv_10, LMv_11, LMv_12, LMv_13, LMv_15, LMv_16, LMv_17, LMv_18, LMv_19, LMv_20, LMv_21, LMv_22, LMv_23, LMv_24]; omega) | assumption) only [cl_s, pt_s, pv_s, jn_s, L_0, L_1, L_2, L_3, L_4, L_5, L_6, L_7, L_8, L_9, L_10, L_11, L_12, L_16, L_20, L_21, L_25, L_26, L_31, L_40, L_41, L_48, L_55, L_56, L_57, L_58, L_59, L_60, L_61, L_63, L_90, L_97, L_99, L_100, L_122, L_343, L_600, L_999, L_1000, L_2200, L_2256, n_lt, n_le, n_eq, nI_add, pk_mul, rdC, rdM, wrC, wrM, gd_inb, gd_B0, gd_B1, if_pos, if_neg, if_true, if_false, ite_self, Nat.add_zero, Nat.zero_add, pk_div, mn99]
  | 5, _ =>
    simp (disch := first | omega | (simp only [LCv_3, LCv_12, LCv_18, LCv_19, LCv_20, LCv_21, LCv_22, LCv_23, LCv_27, LCv_28, LCv_29, LCv_30, LCv_31, LCv_32, LCv_33, LCv_34, LCv_35, LCv_40, LCv_42, LCv_43, LCv_44, LCv_45, LCv_47, LCv_49, LCv_50, LCv_51, LMv_1, LMv_2, LMv_3, LMv_4, LMv_5, LMv_6, LMv_7, LMv_8, LMv_9, LMv_10, LMv_11, LMv_12, LMv_13, LMv_15, LMv_16, LMv_17, LMv_18, LMv_19, LMv_20, LMv_21, LMv_22, LMv_23, LMv_24]; omega) | assumption) only [cl_s, pt_s, pv_s, jn_s, L_0, L_1, L_2, L_3, L_4, L_5, L_6, L_7, L_8, L_9, L_10, L_11, L_12, L_16, L_20, L_21, L_25, L_26, L_31, L_40, L_41, L_48, L_55, L_56, L_57, L_58, L_59, L_60, L_61, L_63, L_90, L_97, L_99, L_100, L_122, L_343, L_600, L_999, L_1000, L_2200, L_2256, n_lt, n_le, n_eq, nI_add, pk_mul, rdC, rdM, wrC, wrM, gd_inb, gd_B0, gd_B1, if_pos, if_neg, if_true, if_false, ite_self, Nat.add_zero, Nat.zero_add, pk_div, mn99]
    rw [Nat.min_eq_right (by omega)]
theorem nxtM (σ : St) {k i u : Nat} (hk : k < 6) (hi : i ≤ 9) (hu : u ≤ 99) : fX11_nextPurse σ (nI k) (nI u) (nI i) = some (σ, nI (nxt k i u)) := by
  unfold fX11_nextPurse nxt
  match k, hk with
  | 0, _ =>
    simp (disch := first | omega | (simp only [LCv_3, LCv_12, LCv_18, LCv_19, LCv_20, LCv_21, LCv_22, LCv_23, LCv_27, LCv_28, LCv_29, LCv_30, LCv_31, LCv_32, LCv_33, LCv_34, LCv_35, LCv_40, LCv_42, LCv_43, LCv_44, LCv_45, LCv_47, LCv_49, LCv_50, LCv_51, LMv_1, LMv_2, LMv_3, LMv_4, LMv_5, LMv_6, LMv_7, LMv_8, LMv_9, LMv_10, LMv_11, LMv_12, LMv_13, LMv_15, LMv_16, LMv_17, LMv_18, LMv_19, LMv_20, LMv_21, LMv_22, LMv_23, LMv_24]; omega) | assumption) only [cl_s, pt_s, pv_s, jn_s, L_0, L_1, L_2, L_3, L_4, L_5, L_6, L_7, L_8, L_9, L_10, L_11, L_12, L_16, L_20, L_21, L_25, L_26, L_31, L_40, L_41, L_48, L_55, L_56, L_57, L_58, L_59, L_60, L_61, L_63, L_90, L_97, L_99, L_100, L_122, L_343, L_600, L_999, L_1000, L_2200, L_2256, n_lt, n_le, n_eq, nI_add, pk_mul, rdC, rdM, wrC, wrM, gd_inb, gd_B0, gd_B1, if_pos, if_neg, if_true, if_false, ite_self, Nat.add_zero, Nat.zero_add, pk_div, lessM]
    rw [Nat.min_eq_right (by omega)]
  | 1, _ => simp (disch := first | omega | (simp only [LCv_3, LCv_12, LCv_18, LCv_19, LCv_20, LCv_21, LCv_22, LCv_23, LCv_27, LCv_28, LCv_29, LCv_30, LCv_31, LCv_32, LCv_33, LCv_34, LCv_35, LCv_40, LCv_42, LCv_43, LCv_44, LCv_45, LCv_47, LCv_49, LCv_50, LCv_51, LMv_1, LMv_2, LMv_3, LMv_4, LMv_5, LMv_6, LMv_7, LMv_8, LMv_9, LMv_10, LMv_11, LMv_12, LMv_13, LMv_15, LMv_16, LMv_17, LMv_18, LMv_19, LMv_20, LMv_21, LMv_22, LMv_23, LMv_24]; omega) | assumption) only [cl_s, pt_s, pv_s, jn_s, L_0, L_1, L_2, L_3, L_4, L_5, L_6, L_7, L_8, L_9, L_10, L_11, L_12, L_16, L_20, L_21, L_25, L_26, L_31, L_40, L_41, L_48, L_55, L_56, L_57, L_58, L_59, L_60, L_61, L_63, L_90, L_97, L_99, L_100, L_122, L_343, L_600, L_999, L_1000, L_2200, L_2256, n_lt, n_le, n_eq, nI_add, pk_mul, rdC, rdM, wrC, wrM, gd_inb, gd_B0, gd_B1, if_pos, if_neg, if_true, if_false, ite_self, Nat.add_zero, Nat.zero_add, pk_div, lessM]
  | 2, _ =>
    simp (disch := first | omega | (simp only [LCv_3, LCv_12, LCv_18, LCv_19, LCv_20, LCv_21, LCv_22, LCv_23, LCv_27, LCv_28, LCv_29, LCv_30, LCv_31, LCv_32, LCv_33, LCv_34, LCv_35, LCv_40, LCv_42, LCv_43, LCv_44, LCv_45, LCv_47, LCv_49, LCv_50, LCv_51, LMv_1, LMv_2, LMv_3, LMv_4, LMv_5, LMv_6, LMv_7, LMv_8, LMv_9, LMv_10, LMv_11, LMv_12, LMv_13, LMv_15, LMv_16, LMv_17, LMv_18, LMv_19, LMv_20, LMv_21, LMv_22, LMv_23, LMv_24]; omega) | assumption) only [cl_s, pt_s, pv_s, jn_s, L_0, L_1, L_2, L_3, L_4, L_5, L_6, L_7, L_8, L_9, L_10, L_11, L_12, L_16, L_20, L_21, L_25, L_26, L_31, L_40, L_41, L_48, L_55, L_56, L_57, L_58, L_59, L_60, L_61, L_63, L_90, L_97, L_99, L_100, L_122, L_343, L_600, L_999, L_1000, L_2200, L_2256, n_lt, n_le, n_eq, nI_add, pk_mul, rdC, rdM, wrC, wrM, gd_inb, gd_B0, gd_B1, if_pos, if_neg, if_true, if_false, ite_self, Nat.add_zero, Nat.zero_add, pk_div, lessM]
    rw [Nat.min_eq_right (by omega)]
  | 3, _ =>
    simp (disch := first | omega | (simp only [LCv_3, LCv_12, LCv_18, LCv_19, LCv_20, LCv_21, LCv_22, LCv_23, LCv_27, LCv_28, LCv_29, LCv_30, LCv_31, LCv_32, LCv_33, LCv_34, LCv_35, LCv_40, LCv_42, LCv_43, LCv_44, LCv_45, LCv_47, LCv_49, LCv_50, LCv_51, LMv_1, LMv_2, LMv_3, LMv_4, LMv_5, LMv_6, LMv_7, LMv_8, LMv_9, LMv_10, LMv_11, LMv_12, LMv_13, LMv_15, LMv_16, LMv_17, LMv_18, LMv_19, LMv_20, LMv_21, LMv_22, LMv_23, LMv_24]; omega) | assumption) only [cl_s, pt_s, pv_s, jn_s, L_0, L_1, L_2, L_3, L_4, L_5, L_6, L_7, L_8, L_9, L_10, L_11, L_12, L_16, L_20, L_21, L_25, L_26, L_31, L_40, L_41, L_48, L_55, L_56, L_57, L_58, L_59, L_60, L_61, L_63, L_90, L_97, L_99, L_100, L_122, L_343, L_600, L_999, L_1000, L_2200, L_2256, n_lt, n_le, n_eq, nI_add, pk_mul, rdC, rdM, wrC, wrM, gd_inb, gd_B0, gd_B1, if_pos, if_neg, if_true, if_false, ite_self, Nat.add_zero, Nat.zero_add, pk_div, lessM]
    rw [Nat.min_eq_right (by omega)]
  | 4, _ =>
    simp (disch := first | omega | (simp only [LCv_3, LCv_12, LCv_18, LCv_19, LCv_20, LCv_21, LCv_22, LCv_23, LCv_27, LCv_28, LCv_29, LCv_30, LCv_31, LCv_32, LCv_33, LCv_34, LCv_35, LCv_40, LCv_42, LCv_43, LCv_44, LCv_45, LCv_47, LCv_49, LCv_50, LCv_51, LMv_1, LMv_2, LMv_3, LMv_4, LMv_5, LMv_6, LMv_7, LMv_8, LMv_9, LMv_10, LMv_11, LMv_12, LMv_13, LMv_15, LMv_16, LMv_17, LMv_18, LMv_19, LMv_20, LMv_21, LMv_22, LMv_23, LMv_24]; omega) | assumption) only [cl_s, pt_s, pv_s, jn_s, L_0, L_1, L_2, L_3, L_4, L_5, L_6, L_7, L_8, L_9, L_10, L_11, L_12, L_16, L_20, L_21, L_25, L_26, L_31, L_40, L_41, L_48, L_55, L_56, L_57, L_58, L_59, L_60, L_61, L_63, L_90, L_97, L_99, L_100, L_122, L_343, L_600, L_999, L_1000, L_2200, L_2256, n_lt, n_le, n_eq, nI_add, pk_mul, rdC, rdM, wrC, wrM, gd_inb, gd_B0, gd_B1, if_pos, if_neg, if_true, if_false, ite_self, Nat.add_zero, Nat.zero_add, pk_div, lessM]
    rw [show u + u / 5 + i = u + i + u / 5 by omega]
  | 5, _ =>
    simp (disch := first | omega | (simp only [LCv_3, LCv_12, LCv_18, LCv_19, LCv_20, LCv_21, LCv_22, LCv_23, LCv_27, LCv_28, LCv_29, LCv_30, LCv_31, LCv_32, LCv_33, LCv_34, LCv_35, LCv_40, LCv_42, LCv_43, LCv_44, LCv_45, LCv_47, LCv_49, LCv_50, LCv_51, LMv_1, LMv_2, LMv_3, LMv_4, LMv_5, LMv_6, LMv_7, LMv_8, LMv_9, LMv_10, LMv_11, LMv_12, LMv_13, LMv_15, LMv_16, LMv_17, LMv_18, LMv_19, LMv_20, LMv_21, LMv_22, LMv_23, LMv_24]; omega) | assumption) only [cl_s, pt_s, pv_s, jn_s, L_0, L_1, L_2, L_3, L_4, L_5, L_6, L_7, L_8, L_9, L_10, L_11, L_12, L_16, L_20, L_21, L_25, L_26, L_31, L_40, L_41, L_48, L_55, L_56, L_57, L_58, L_59, L_60, L_61, L_63, L_90, L_97, L_99, L_100, L_122, L_343, L_600, L_999, L_1000, L_2200, L_2256, n_lt, n_le, n_eq, nI_add, pk_mul, rdC, rdM, wrC, wrM, gd_inb, gd_B0, gd_B1, if_pos, if_neg, if_true, if_false, ite_self, Nat.add_zero, Nat.zero_add, pk_div, lessM]
    rw [show u / 2 + i = i + u / 2 by omega]
-- the plan's numbers
section PL
variable {τ σ : St} {P : Pl}
theorem isHouseC_y (hP : PlanOk P) (hC : PlC τ P) {h : Nat} (hh : h < pH P) : fX6_isHouse τ (nI h) = some (τ, 1) := by
  unfold fX6_isHouse
  have := hP.1
  rw [if_neg (nI_pos (by omega)), hC.1, if_neg (nI_ge hh (by omega))]
theorem isHouseC_n (hC : PlC τ P) {x : Int32} (hx : x < 0 ∨ nI (pH P) ≤ x) : fX6_isHouse τ x = some (τ, 0) := by
  unfold fX6_isHouse
  by_cases h0 : x < 0
  · rw [if_pos h0]
  · rw [if_neg h0, hC.1, if_pos (hx.resolve_left h0)]
theorem isColourC_y (hP : PlanOk P) (hC : PlC τ P) {c : Nat} (hc : c < pC P) : fX6_isColour τ (nI c) = some (τ, 1) := by
  unfold fX6_isColour
  have := hP.2.1
  rw [if_neg (nI_pos (by omega)), hC.2.1, if_neg (nI_ge hc (by omega))]
theorem isColourC_n (hC : PlC τ P) {x : Int32} (hx : x < 0 ∨ nI (pC P) ≤ x) : fX6_isColour τ x = some (τ, 0) := by
  unfold fX6_isColour
  by_cases h0 : x < 0
  · rw [if_pos h0]
  · rw [if_neg h0, hC.2.1, if_pos (hx.resolve_left h0)]
theorem isHouseM_y (hP : PlanOk P) (hM : PlM σ P) {h : Nat} (hh : h < pH P) : fX11_isHouse σ (nI h) = some (σ, 1) := by
  unfold fX11_isHouse
  have := hP.1
  rw [hM.1, inS_y σ (by omega) hh]
  rfl
theorem isHouseM_n (hP : PlanOk P) (hM : PlM σ P) {x : Int32} (hx : x < 0 ∨ nI (pH P) ≤ x) : fX11_isHouse σ x = some (σ, 0) := by
  unfold fX11_isHouse
  have := hP.1
  rw [hM.1, inS_n σ (by omega) hx]
  rfl
theorem isColourM_y (hP : PlanOk P) (hM : PlM σ P) {c : Nat} (hc : c < pC P) : fX11_isColour σ (nI c) = some (σ, 1) := by
  unfold fX11_isColour
  have := hP.2.1
  rw [hM.2.1, inS_y σ (by omega) hc]
  rfl
theorem isColourM_n (hP : PlanOk P) (hM : PlM σ P) {x : Int32} (hx : x < 0 ∨ nI (pC P) ≤ x) : fX11_isColour σ x = some (σ, 0) := by
  unfold fX11_isColour
  have := hP.2.1
  rw [hM.2.1, inS_n σ (by omega) hx]
  rfl
theorem paysC (hP : PlanOk P) (hC : PlC τ P) {h c : Nat} (hh : h < pH P) (hc : c < pC P) : fX6_pays τ (nI h) (nI c) = some (τ, nI (pay (kd P h) (pr P c))) := by
  unfold fX6_pays
  have h6 := hP.1
  have h8 := hP.2.1
  obtain ⟨a1, -⟩ := hP.2.2.2.1 h hh
  obtain ⟨a2, -⟩ := hP.2.2.2.2 c hc
  rw [rdC (show h < LC 31 by show h < 6; omega), rdC (show c < LC 29 by show c < 8; omega), (hC.2.2.1 h hh).1, (hC.2.2.2 c hc).1, payC τ a1 a2.1 a2.2]
  rfl
theorem paysM (hP : PlanOk P) (hM : PlM σ P) {h c : Nat} (hh : h < pH P) (hc : c < pC P) : fX11_pays σ (nI h) (nI c) = some (σ, nI (pay (kd P h) (pr P c))) := by
  unfold fX11_pays
  have h6 := hP.1
  have h8 := hP.2.1
  obtain ⟨a1, -⟩ := hP.2.2.2.1 h hh
  obtain ⟨a2, -⟩ := hP.2.2.2.2 c hc
  rw [rdM (show h < LM 5 by show h < 6; omega), rdM (show c < LM 8 by show c < 8; omega), (hM.2.2.1 h hh).1, (hM.2.2.2 c hc).1, payM σ a1 a2.1 a2.2]
  rfl
theorem holdsC (hP : PlanOk P) (hC : PlC τ P) {h c : Nat} (hh : h < pH P) (hc : c < pC P) : fX6_holds τ (nI h) (nI c) = some (τ, nI (hold (kd P h) (la P c))) := by
  unfold fX6_holds
  have h6 := hP.1
  have h8 := hP.2.1
  obtain ⟨a1, -⟩ := hP.2.2.2.1 h hh
  obtain ⟨-, a2, -⟩ := hP.2.2.2.2 c hc
  rw [rdC (show h < LC 31 by show h < 6; omega), rdC (show c < LC 30 by show c < 8; omega), (hC.2.2.1 h hh).1, (hC.2.2.2 c hc).2.1, holdC τ a1 a2.1 a2.2]
  rfl
theorem holdsM (hP : PlanOk P) (hM : PlM σ P) {h c : Nat} (hh : h < pH P) (hc : c < pC P) : fX11_monthsOf σ (nI h) (nI c) = some (σ, nI (hold (kd P h) (la P c))) := by
  unfold fX11_monthsOf
  have h6 := hP.1
  have h8 := hP.2.1
  obtain ⟨a1, -⟩ := hP.2.2.2.1 h hh
  obtain ⟨-, a2, -⟩ := hP.2.2.2.2 c hc
  rw [rdM (show c < LM 9 by show c < 8; omega), rdM (show h < LM 5 by show h < 6; omega), (hM.2.2.1 h hh).1, (hM.2.2.2 c hc).2.1]
  rw [jn_s, rdM (show h < LM 5 by show h < 6; omega), (hM.2.2.1 h hh).1]
  unfold hold
  revert a1
  generalize kd P h = k
  intro a1
  match k, a1 with
  | 0, _ => simp (disch := first | omega | (simp only [LCv_3, LCv_12, LCv_18, LCv_19, LCv_20, LCv_21, LCv_22, LCv_23, LCv_27, LCv_28, LCv_29, LCv_30, LCv_31, LCv_32, LCv_33, LCv_34, LCv_35, LCv_40, LCv_42, LCv_43, LCv_44, LCv_45, LCv_47, LCv_49, LCv_50, LCv_51, LMv_1, LMv_2, LMv_3, LMv_4, LMv_5, LMv_6, LMv_7, LMv_8, LMv_9, LMv_10, LMv_11, LMv_12, LMv_13, LMv_15, LMv_16, LMv_17, LMv_18, LMv_19, LMv_20, LMv_21, LMv_22, LMv_23, LMv_24]; omega) | assumption) only [cl_s, pt_s, pv_s, jn_s, L_0, L_1, L_2, L_3, L_4, L_5, L_6, L_7, L_8, L_9, L_10, L_11, L_12, L_16, L_20, L_21, L_25, L_26, L_31, L_40, L_41, L_48, L_55, L_56, L_57, L_58, L_59, L_60, L_61, L_63, L_90, L_97, L_99, L_100, L_122, L_343, L_600, L_999, L_1000, L_2200, L_2256, n_lt, n_le, n_eq, nI_add, pk_mul, rdC, rdM, wrC, wrM, gd_inb, gd_B0, gd_B1, if_pos, if_neg, if_true, if_false, ite_self, Nat.add_zero, Nat.zero_add]
  | 1, _ => simp (disch := first | omega | (simp only [LCv_3, LCv_12, LCv_18, LCv_19, LCv_20, LCv_21, LCv_22, LCv_23, LCv_27, LCv_28, LCv_29, LCv_30, LCv_31, LCv_32, LCv_33, LCv_34, LCv_35, LCv_40, LCv_42, LCv_43, LCv_44, LCv_45, LCv_47, LCv_49, LCv_50, LCv_51, LMv_1, LMv_2, LMv_3, LMv_4, LMv_5, LMv_6, LMv_7, LMv_8, LMv_9, LMv_10, LMv_11, LMv_12, LMv_13, LMv_15, LMv_16, LMv_17, LMv_18, LMv_19, LMv_20, LMv_21, LMv_22, LMv_23, LMv_24]; omega) | assumption) only [cl_s, pt_s, pv_s, jn_s, L_0, L_1, L_2, L_3, L_4, L_5, L_6, L_7, L_8, L_9, L_10, L_11, L_12, L_16, L_20, L_21, L_25, L_26, L_31, L_40, L_41, L_48, L_55, L_56, L_57, L_58, L_59, L_60, L_61, L_63, L_90, L_97, L_99, L_100, L_122, L_343, L_600, L_999, L_1000, L_2200, L_2256, n_lt, n_le, n_eq, nI_add, pk_mul, rdC, rdM, wrC, wrM, gd_inb, gd_B0, gd_B1, if_pos, if_neg, if_true, if_false, ite_self, Nat.add_zero, Nat.zero_add]
  | 2, _ => simp (disch := first | omega | (simp only [LCv_3, LCv_12, LCv_18, LCv_19, LCv_20, LCv_21, LCv_22, LCv_23, LCv_27, LCv_28, LCv_29, LCv_30, LCv_31, LCv_32, LCv_33, LCv_34, LCv_35, LCv_40, LCv_42, LCv_43, LCv_44, LCv_45, LCv_47, LCv_49, LCv_50, LCv_51, LMv_1, LMv_2, LMv_3, LMv_4, LMv_5, LMv_6, LMv_7, LMv_8, LMv_9, LMv_10, LMv_11, LMv_12, LMv_13, LMv_15, LMv_16, LMv_17, LMv_18, LMv_19, LMv_20, LMv_21, LMv_22, LMv_23, LMv_24]; omega) | assumption) only [cl_s, pt_s, pv_s, jn_s, L_0, L_1, L_2, L_3, L_4, L_5, L_6, L_7, L_8, L_9, L_10, L_11, L_12, L_16, L_20, L_21, L_25, L_26, L_31, L_40, L_41, L_48, L_55, L_56, L_57, L_58, L_59, L_60, L_61, L_63, L_90, L_97, L_99, L_100, L_122, L_343, L_600, L_999, L_1000, L_2200, L_2256, n_lt, n_le, n_eq, nI_add, pk_mul, rdC, rdM, wrC, wrM, gd_inb, gd_B0, gd_B1, if_pos, if_neg, if_true, if_false, ite_self, Nat.add_zero, Nat.zero_add]
  | 3, _ => simp (disch := first | omega | (simp only [LCv_3, LCv_12, LCv_18, LCv_19, LCv_20, LCv_21, LCv_22, LCv_23, LCv_27, LCv_28, LCv_29, LCv_30, LCv_31, LCv_32, LCv_33, LCv_34, LCv_35, LCv_40, LCv_42, LCv_43, LCv_44, LCv_45, LCv_47, LCv_49, LCv_50, LCv_51, LMv_1, LMv_2, LMv_3, LMv_4, LMv_5, LMv_6, LMv_7, LMv_8, LMv_9, LMv_10, LMv_11, LMv_12, LMv_13, LMv_15, LMv_16, LMv_17, LMv_18, LMv_19, LMv_20, LMv_21, LMv_22, LMv_23, LMv_24]; omega) | assumption) only [cl_s, pt_s, pv_s, jn_s, L_0, L_1, L_2, L_3, L_4, L_5, L_6, L_7, L_8, L_9, L_10, L_11, L_12, L_16, L_20, L_21, L_25, L_26, L_31, L_40, L_41, L_48, L_55, L_56, L_57, L_58, L_59, L_60, L_61, L_63, L_90, L_97, L_99, L_100, L_122, L_343, L_600, L_999, L_1000, L_2200, L_2256, n_lt, n_le, n_eq, nI_add, pk_mul, rdC, rdM, wrC, wrM, gd_inb, gd_B0, gd_B1, if_pos, if_neg, if_true, if_false, ite_self, Nat.add_zero, Nat.zero_add]
  | 4, _ => simp (disch := first | omega | (simp only [LCv_3, LCv_12, LCv_18, LCv_19, LCv_20, LCv_21, LCv_22, LCv_23, LCv_27, LCv_28, LCv_29, LCv_30, LCv_31, LCv_32, LCv_33, LCv_34, LCv_35, LCv_40, LCv_42, LCv_43, LCv_44, LCv_45, LCv_47, LCv_49, LCv_50, LCv_51, LMv_1, LMv_2, LMv_3, LMv_4, LMv_5, LMv_6, LMv_7, LMv_8, LMv_9, LMv_10, LMv_11, LMv_12, LMv_13, LMv_15, LMv_16, LMv_17, LMv_18, LMv_19, LMv_20, LMv_21, LMv_22, LMv_23, LMv_24]; omega) | assumption) only [cl_s, pt_s, pv_s, jn_s, L_0, L_1, L_2, L_3, L_4, L_5, L_6, L_7, L_8, L_9, L_10, L_11, L_12, L_16, L_20, L_21, L_25, L_26, L_31, L_40, L_41, L_48, L_55, L_56, L_57, L_58, L_59, L_60, L_61, L_63, L_90, L_97, L_99, L_100, L_122, L_343, L_600, L_999, L_1000, L_2200, L_2256, n_lt, n_le, n_eq, nI_add, pk_mul, rdC, rdM, wrC, wrM, gd_inb, gd_B0, gd_B1, if_pos, if_neg, if_true, if_false, ite_self, Nat.add_zero, Nat.zero_add]
  | 5, _ => simp (disch := first | omega | (simp only [LCv_3, LCv_12, LCv_18, LCv_19, LCv_20, LCv_21, LCv_22, LCv_23, LCv_27, LCv_28, LCv_29, LCv_30, LCv_31, LCv_32, LCv_33, LCv_34, LCv_35, LCv_40, LCv_42, LCv_43, LCv_44, LCv_45, LCv_47, LCv_49, LCv_50, LCv_51, LMv_1, LMv_2, LMv_3, LMv_4, LMv_5, LMv_6, LMv_7, LMv_8, LMv_9, LMv_10, LMv_11, LMv_12, LMv_13, LMv_15, LMv_16, LMv_17, LMv_18, LMv_19, LMv_20, LMv_21, LMv_22, LMv_23, LMv_24]; omega) | assumption) only [cl_s, pt_s, pv_s, jn_s, L_0, L_1, L_2, L_3, L_4, L_5, L_6, L_7, L_8, L_9, L_10, L_11, L_12, L_16, L_20, L_21, L_25, L_26, L_31, L_40, L_41, L_48, L_55, L_56, L_57, L_58, L_59, L_60, L_61, L_63, L_90, L_97, L_99, L_100, L_122, L_343, L_600, L_999, L_1000, L_2200, L_2256, n_lt, n_le, n_eq, nI_add, pk_mul, rdC, rdM, wrC, wrM, gd_inb, gd_B0, gd_B1, if_pos, if_neg, if_true, if_false, ite_self, Nat.add_zero, Nat.zero_add]
theorem purseC (hP : PlanOk P) (hC : PlC τ P) {h u : Nat} (hh : h < pH P) (hu : u ≤ 99) : fX6_purseBehind τ (nI h) (nI u) = some (τ, nI (nxt (kd P h) (ic P h) u)) := by
  unfold fX6_purseBehind
  have h6 := hP.1
  obtain ⟨a1, a2⟩ := hP.2.2.2.1 h hh
  rw [rdC (show h < LC 31 by show h < 6; omega), rdC (show h < LC 32 by show h < 6; omega), (hC.2.2.1 h hh).1, (hC.2.2.1 h hh).2, nxtC τ a1 a2 hu]
  rfl
theorem nxt_le (k i u : Nat) : nxt k i u ≤ 99 := by
  unfold nxt
  omega
theorem hold_le {k l : Nat} (h : l ≤ 9) : hold k l ≤ 11 := by
  unfold hold
  split <;> (try split) <;> omega
theorem hold_pos {k l : Nat} (h : 1 ≤ l) : 1 ≤ hold k l := by
  unfold hold
  split <;> (try split) <;> omega
theorem pay_le {k p : Nat} (h : p ≤ 9) : pay k p ≤ 18 := by
  unfold pay
  split <;> (try split) <;> (try split) <;> omega
theorem pay_pos {k p : Nat} (h : 1 ≤ p) : 1 ≤ pay k p := by
  unfold pay
  split <;> (try split) <;> (try split) <;> omega
end PL
