/-! steps: what is told; rows and texts -/
theorem s_asked (τ σ : St) (h : Rel τ σ) : ∃ (τ' σ' : St) (r : Int32), fX10_asked τ = some (τ', r) ∧ fX11_asked σ = some (σ', r) ∧ Rel τ' σ' := ⟨τ, σ, σ.1 0 17, by unfold fX10_asked; rw [h.1.1], rfl, h⟩
theorem s_finding (τ σ : St) (h : Rel τ σ) : ∃ (τ' σ' : St) (r : Int32), fX10_finding τ = some (τ', r) ∧ fX11_finding σ = some (σ', r) ∧ Rel τ' σ' := ⟨τ, σ, σ.1 0 20, by unfold fX10_finding; rw [h.1.2.1], rfl, h⟩
theorem s_upper (τ σ : St) (h : Rel τ σ) : ∃ (τ' σ' : St) (r : Int64), fX10_upper τ = some (τ', r) ∧ fX11_upper σ = some (σ', r) ∧ Rel τ' σ' := ⟨τ, σ, σ.2 0 18, by unfold fX10_upper; rw [h.1.2.2.2.1], rfl, h⟩
theorem s_lower (τ σ : St) (h : Rel τ σ) : ∃ (τ' σ' : St) (r : Int64), fX10_lower τ = some (τ', r) ∧ fX11_lower σ = some (σ', r) ∧ Rel τ' σ' := ⟨τ, σ, σ.2 0 19, by unfold fX10_lower; rw [h.1.2.2.2.2], rfl, h⟩
theorem J_0 : (0 : Int64) = (nI 0).toInt64 := rfl
theorem J_1 : (1 : Int64) = (nI 1).toInt64 := rfl
theorem J_3 : (3 : Int64) = (nI 3).toInt64 := rfl
theorem J_5 : (5 : Int64) = (nI 5).toInt64 := rfl
theorem in_nI (σ : St) {a j n : Nat} (ha : a < 2 ^ 31) (hj : j < 2 ^ 31) (hn : n < 2 ^ 31) : fX11_in σ (nI j).toInt64 (nI a).toInt64 (nI n).toInt64 = some (σ, if a ≤ j ∧ j ≤ n then nI 1 else nI 0) := by
  have := in_ev σ (nI j) (nI a) (nI n)
  simp only [n_le ha hj, n_le hj hn] at this
  exact this
theorem in_out (σ : St) {x : Int32} {a n : Nat} (hn : n < 2 ^ 31) (ha : a < 2 ^ 31) (h : ¬ ((a : Int) ≤ x.toInt ∧ x.toInt ≤ n)) : fX11_in σ x.toInt64 (nI a).toInt64 (nI n).toInt64 = some (σ, nI 0) := by
  have := in_ev σ x (nI a) (nI n)
  rw [if_neg] at this
  · exact this
  · rw [Int32.le_iff_toInt_le, Int32.le_iff_toInt_le, nI_toInt (by omega), nI_toInt (by omega)]
    exact h
/-- an int between two: as a natural number -/
theorem between {x : Int32} {a n : Nat} (h : (a : Int) ≤ x.toInt ∧ x.toInt ≤ n) (hn : n < 2 ^ 31) : ∃ j, a ≤ j ∧ j ≤ n ∧ x = nI j := by
  refine ⟨x.toInt.toNat, by omega, by omega, ?_⟩
  rw [← Int32.toInt_inj, nI_toInt (by omega)]
  omega
theorem i_lt {x y : Int32} : x < y ↔ x.toInt < y.toInt := Int32.lt_iff_toInt_lt
theorem i_le {x y : Int32} : x ≤ y ↔ x.toInt ≤ y.toInt := Int32.le_iff_toInt_le
theorem s_findings (τ σ : St) (h : Rel τ σ) (a1 : Int32) : ∃ (τ' σ' : St) (r : Int32), fX10_findings τ a1 = some (τ', r) ∧ fX11_findings σ a1 = some (σ', r) ∧ Rel τ' σ' := by
  by_cases hin : ((1 : Nat) : Int) ≤ a1.toInt ∧ a1.toInt ≤ (5 : Nat)
  · obtain ⟨j, h1, h5, rfl⟩ := between hin (by omega)
    refine ⟨τ, σ, σ.1 15 j, ?_, ?_, h⟩
    · unfold fX10_findings
      simp (disch := first | omega | (simp only [LCv_3, LCv_12, LCv_18, LCv_19, LCv_20, LCv_21, LCv_22, LCv_23, LCv_27, LCv_28, LCv_29, LCv_30, LCv_31, LCv_32, LCv_33, LCv_34, LCv_35, LCv_40, LCv_42, LCv_43, LCv_44, LCv_45, LCv_47, LCv_49, LCv_50, LCv_51, LMv_1, LMv_2, LMv_3, LMv_4, LMv_5, LMv_6, LMv_7, LMv_8, LMv_9, LMv_10, LMv_11, LMv_12, LMv_13, LMv_15, LMv_16, LMv_17, LMv_18, LMv_19, LMv_20, LMv_21, LMv_22, LMv_23, LMv_24]; omega) | assumption) only [cl_s, pt_s, pv_s, jn_s, L_0, L_1, L_2, L_3, L_4, L_5, L_6, L_7, L_8, L_9, L_10, L_11, L_12, L_16, L_20, L_21, L_25, L_26, L_31, L_40, L_41, L_48, L_55, L_56, L_57, L_58, L_59, L_60, L_61, L_63, L_90, L_97, L_99, L_100, L_122, L_343, L_600, L_999, L_1000, L_2200, L_2256, n_lt, n_le, n_eq, nI_add, pk_mul, rdC, rdM, wrC, wrM, gd_inb, gd_B0, gd_B1, if_pos, if_neg, ite_self, h.1.2.2.1]
    · unfold fX11_findings
      simp (disch := first | omega | (simp only [LCv_3, LCv_12, LCv_18, LCv_19, LCv_20, LCv_21, LCv_22, LCv_23, LCv_27, LCv_28, LCv_29, LCv_30, LCv_31, LCv_32, LCv_33, LCv_34, LCv_35, LCv_40, LCv_42, LCv_43, LCv_44, LCv_45, LCv_47, LCv_49, LCv_50, LCv_51, LMv_1, LMv_2, LMv_3, LMv_4, LMv_5, LMv_6, LMv_7, LMv_8, LMv_9, LMv_10, LMv_11, LMv_12, LMv_13, LMv_15, LMv_16, LMv_17, LMv_18, LMv_19, LMv_20, LMv_21, LMv_22, LMv_23, LMv_24]; omega) | assumption) only [cl_s, pt_s, pv_s, jn_s, L_0, L_1, L_2, L_3, L_4, L_5, L_6, L_7, L_8, L_9, L_10, L_11, L_12, L_16, L_20, L_21, L_25, L_26, L_31, L_40, L_41, L_48, L_55, L_56, L_57, L_58, L_59, L_60, L_61, L_63, L_90, L_97, L_99, L_100, L_122, L_343, L_600, L_999, L_1000, L_2200, L_2256, n_lt, n_le, n_eq, nI_add, pk_mul, rdC, rdM, wrC, wrM, gd_inb, gd_B0, gd_B1, if_pos, if_neg, ite_self, J_1, J_5, in_nI]
  · refine ⟨τ, σ, -1, ?_, ?_, h⟩
    · unfold fX10_findings
      by_cases h1 : a1 < 1
      · rw [if_pos h1]
      · rw [if_neg h1, if_neg]
        rw [i_lt] at h1
        rw [i_le]
        have e1 : (1 : Int32).toInt = 1 := rfl
        have e5 : (5 : Int32).toInt = 5 := rfl
        omega
    · unfold fX11_findings
      rw [J_1, J_5, in_out σ (a := 1) (n := 5) (by omega) (by omega) hin]
      rfl
