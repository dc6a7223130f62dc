/-! pure rows -/
theorem inb_nI {n N : Nat} (h : n < N) (hN : N < 2 ^ 31) : inb (nI n) N = true := by
  unfold inb
  rw [nI_toInt (by omega)]
  simp only [Bool.and_eq_true, decide_eq_true_eq]
  omega
theorem st_ext {σ τ : St} (h1 : ∀ k j, σ.1 k j = τ.1 k j) (h2 : ∀ k j, σ.2 k j = τ.2 k j) : σ = τ := Prod.ext (funext fun k => funext fun j => h1 k j) (funext fun k => funext fun j => h2 k j)
theorem sc_11 {σ : St} {k a j : Nat} {f : Nat → Int32} : (sc σ k f).1 a j = if a = k then f j else σ.1 a j := by
  unfold sc
  by_cases h : a = k <;> simp [h]
theorem su_11 {σ : St} {k i a j : Nat} {v : Int32} : (su σ k i v).1 a j = if a = k ∧ j = i then v else σ.1 a j := by
  unfold su
  by_cases h : a = k
  · by_cases h2 : j = i <;> simp [h, h2, upd]
  · simp [h]
theorem sl_22 {σ : St} {k i a j : Nat} {v : Int64} : (sl σ k i v).2 a j = if a = k ∧ j = i then v else σ.2 a j := by
  unfold sl
  by_cases h : a = k
  · by_cases h2 : j = i <;> simp [h, h2, vp_updL]
  · simp [h]
theorem su_2 {σ : St} {k i : Nat} {v : Int32} : (su σ k i v).2 = σ.2 := rfl
theorem sc_2 {σ : St} {k : Nat} {f : Nat → Int32} : (sc σ k f).2 = σ.2 := rfl
theorem sl_1 {σ : St} {k i : Nat} {v : Int64} : (sl σ k i v).1 = σ.1 := rfl
