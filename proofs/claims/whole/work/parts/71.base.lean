/-! the two states side by side: pure -/
theorem LC_lt (k : Nat) : LC k < 2 ^ 31 := by
  unfold LC
  split <;> omega
theorem LM_lt (k : Nat) : LM k < 2 ^ 31 := by
  unfold LM
  split <;> omega
theorem cl_s {α β : Type} (σ : St) (a : α) (K : St → α → Option β) : cl (some (σ, a)) K = K σ a := rfl
theorem pt_s {β : Type} (σ : St) (K : St → Option β) : pt σ K = K σ := rfl
theorem pv_s {α β : Type} (x : α) (K : α → Option β) : pv x K = K x := rfl
theorem jn_s {α β : Type} (k : α) (f : α → Option β) : jn k f = f k := rfl
theorem gd_t {β : Type} {b : Bool} {o : Option β} (h : b = true) : gd b o = o := if_pos h
theorem rdC {β : Type} {σ : St} {k n : Nat} {K : Int32 → Option β} (h : n < LC k) : rd LC σ k (nI n) K = K (σ.1 k n) := by
  unfold rd
  have := LC_lt k
  rw [if_pos (inb_nI h (LC_lt k)), nI_clamp (by omega)]
theorem rdM {β : Type} {σ : St} {k n : Nat} {K : Int32 → Option β} (h : n < LM k) : rd LM σ k (nI n) K = K (σ.1 k n) := by
  unfold rd
  have := LM_lt k
  rw [if_pos (inb_nI h (LM_lt k)), nI_clamp (by omega)]
theorem wrC {β : Type} {σ : St} {k n : Nat} {v : Int32} {K : St → Option β} (h : n < LC k) : wr LC σ k (nI n) v K = K (su σ k n v) := by
  unfold wr
  have := LC_lt k
  rw [if_pos (inb_nI h (LC_lt k)), nI_clamp (by omega)]
theorem wrM {β : Type} {σ : St} {k n : Nat} {v : Int32} {K : St → Option β} (h : n < LM k) : wr LM σ k (nI n) v K = K (su σ k n v) := by
  unfold wr
  have := LM_lt k
  rw [if_pos (inb_nI h (LM_lt k)), nI_clamp (by omega)]
theorem LC_row {j : Nat} (h : j < 6) : LC (4 + j) = 40 := by
  match j, h with
  | 0, _ => rfl
  | 1, _ => rfl
  | 2, _ => rfl
  | 3, _ => rfl
  | 4, _ => rfl
  | 5, _ => rfl
theorem LC_text {j : Nat} (h : j < 4) : LC (13 + j) = 90 := by
  match j, h with
  | 0, _ => rfl
  | 1, _ => rfl
  | 2, _ => rfl
  | 3, _ => rfl
theorem lit (n : Nat) : (OfNat.ofNat n : Int32) = nI n := rfl
theorem nlt0 {n : Nat} (h : n < 2 ^ 31) : ¬ nI n < (0 : Int32) := nI_pos h
theorem nle0 {n : Nat} (h : n < 2 ^ 31) : (0 : Int32) ≤ nI n := nI_pos' h
theorem n_lt {a b : Nat} (ha : a < 2 ^ 31) (hb : b < 2 ^ 31) : (nI a < nI b) = (a < b) := propext (nI_ltI ha hb)
theorem n_le {a b : Nat} (ha : a < 2 ^ 31) (hb : b < 2 ^ 31) : (nI a ≤ nI b) = (a ≤ b) := propext (nI_leI ha hb)
theorem n_eq {a b : Nat} (ha : a < 2 ^ 31) (hb : b < 2 ^ 31) : (nI a = nI b) = (a = b) := propext (nI_eq ha hb)
/-- the longs' compare of the reference -/
theorem i64lt (x y : Int32) : x.toInt64 < y.toInt64 ↔ x < y := by
  rw [Int64.lt_iff_toInt_lt, Int32.lt_iff_toInt_lt, Int32.toInt_toInt64, Int32.toInt_toInt64]
theorem cmp_lt (x y : Int64) : (lg_cmp x y < 0) ↔ x < y := by
  unfold lg_cmp
  by_cases h1 : x > y
  · rw [if_pos h1]
    refine ⟨fun h => absurd h (by decide), fun h => ?_⟩
    rw [gt_iff_lt, Int64.lt_iff_toInt_lt] at h1
    rw [Int64.lt_iff_toInt_lt] at h
    omega
  · rw [if_neg h1]
    by_cases h2 : x = y
    · rw [if_pos h2]
      refine ⟨fun h => absurd h (by decide), fun h => ?_⟩
      rw [h2, Int64.lt_iff_toInt_lt] at h
      omega
    · rw [if_neg h2]
      refine ⟨fun _ => ?_, fun _ => by decide⟩
      rw [gt_iff_lt, Int64.lt_iff_toInt_lt] at h1
      rw [← Int64.toInt_inj] at h2
      rw [Int64.lt_iff_toInt_lt]
      omega
theorem cmp_gt (x y : Int64) : (0 < lg_cmp x y) ↔ y < x := by
  unfold lg_cmp
  by_cases h1 : x > y
  · rw [if_pos h1]
    exact ⟨fun _ => h1, fun _ => by decide⟩
  · rw [if_neg h1]
    by_cases h2 : x = y
    · rw [if_pos h2]
      exact ⟨fun h => absurd h (by decide), fun h => absurd h h1⟩
    · rw [if_neg h2]
      exact ⟨fun h => absurd h (by decide), fun h => absurd h h1⟩
theorem in_ev (σ : St) (x a b : Int32) : fX11_in σ x.toInt64 a.toInt64 b.toInt64 = some (σ, if a ≤ x ∧ x ≤ b then 1 else 0) := by
  unfold fX11_in
  by_cases h1 : x < a
  · rw [if_pos ((cmp_lt _ _).mpr ((i64lt _ _).mpr h1)), if_neg]
    rw [Int32.lt_iff_toInt_lt] at h1
    rw [Int32.le_iff_toInt_le, Int32.le_iff_toInt_le]
    omega
  · rw [if_neg (fun h => h1 ((i64lt _ _).mp ((cmp_lt _ _).mp h)))]
    by_cases h2 : b < x
    · rw [if_pos ((cmp_gt _ _).mpr ((i64lt _ _).mpr h2)), if_neg]
      rw [Int32.lt_iff_toInt_lt] at h2
      rw [Int32.le_iff_toInt_le, Int32.le_iff_toInt_le]
      omega
    · rw [if_neg (fun h => h2 ((i64lt _ _).mp ((cmp_gt _ _).mp h))), if_pos]
      exact ⟨Int32.not_lt.mp h1, Int32.not_lt.mp h2⟩
/-- a number that is one of n: or not -/
theorem ix_cases (x : Int32) (n : Nat) (hn : n < 2 ^ 31) : (∃ j, j < n ∧ x = nI j) ∨ (x < 0 ∨ nI n ≤ x) := by
  rcases pk_ix x hn with h | h | h
  · exact Or.inr (Or.inl h)
  · exact Or.inr (Or.inr h)
  · exact Or.inl h
theorem in_yes (σ : St) {j n : Nat} (h : j ≤ n) (hn : n < 2 ^ 31) : fX11_in σ (nI j).toInt64 0 (nI n).toInt64 = some (σ, 1) := by
  have := in_ev σ (nI j) 0 (nI n)
  rw [if_pos ⟨nI_pos' (by omega), nI_le h (by omega)⟩] at this
  exact this
theorem in_no (σ : St) {x : Int32} {n : Nat} (hn : n + 1 < 2 ^ 31) (h : x < 0 ∨ nI (n + 1) ≤ x) : fX11_in σ x.toInt64 0 (nI n).toInt64 = some (σ, 0) := by
  have := in_ev σ x 0 (nI n)
  rw [if_neg] at this
  · exact this
  · rw [Int32.le_iff_toInt_le, Int32.le_iff_toInt_le, nI_toInt (by omega)]
    rcases h with h | h
    · rw [Int32.lt_iff_toInt_lt] at h
      omega
    · rw [Int32.le_iff_toInt_le, nI_toInt (by omega)] at h
      omega
theorem isOne1_yes (τ : St) {j : Nat} (h : j < 6) : fX7_isOne_1 τ (nI j) = some (τ, 1) := by
  unfold fX7_isOne_1
  rw [if_neg (nI_pos (by omega)), if_neg (show ¬ nI (LC 3) ≤ nI j from nI_ge (a := j) (b := 6) h (by omega))]
theorem isOne1_no (τ : St) {x : Int32} (h : x < 0 ∨ nI 6 ≤ x) : fX7_isOne_1 τ x = some (τ, 0) := by
  unfold fX7_isOne_1
  by_cases h1 : x < 0
  · rw [if_pos h1]
  · rw [if_neg h1, if_pos (show nI (LC 3) ≤ x from h.resolve_left h1)]
theorem isOne10_yes (τ : St) {j : Nat} (h : j < 4) : fX7_isOne_10 τ (nI j) = some (τ, 1) := by
  unfold fX7_isOne_10
  rw [if_neg (nI_pos (by omega)), if_neg (show ¬ nI (LC 12) ≤ nI j from nI_ge (a := j) (b := 4) h (by omega))]
theorem isOne10_no (τ : St) {x : Int32} (h : x < 0 ∨ nI 4 ≤ x) : fX7_isOne_10 τ x = some (τ, 0) := by
  unfold fX7_isOne_10
  by_cases h1 : x < 0
  · rw [if_pos h1]
  · rw [if_neg h1, if_pos (show nI (LC 12) ≤ x from h.resolve_left h1)]
theorem isRow_yes (σ : St) {j : Nat} (h : j < 6) : fX11_isRow σ (nI j) = some (σ, 1) := by
  unfold fX11_isRow
  rw [show (5 : Int64) = (nI 5).toInt64 from rfl, in_yes σ (by omega) (by omega)]
  rfl
theorem isRow_no (σ : St) {x : Int32} (h : x < 0 ∨ nI 6 ≤ x) : fX11_isRow σ x = some (σ, 0) := by
  unfold fX11_isRow
  rw [show (5 : Int64) = (nI 5).toInt64 from rfl, in_no σ (by omega) h]
  rfl
theorem isText_yes (σ : St) {j : Nat} (h : j < 4) : fX11_isText σ (nI j) = some (σ, 1) := by
  unfold fX11_isText
  rw [show (3 : Int64) = (nI 3).toInt64 from rfl, in_yes σ (by omega) (by omega)]
  rfl
theorem isText_no (σ : St) {x : Int32} (h : x < 0 ∨ nI 4 ≤ x) : fX11_isText σ x = some (σ, 0) := by
  unfold fX11_isText
  rw [show (3 : Int64) = (nI 3).toInt64 from rfl, in_no σ (by omega) h]
  rfl
def refu (τ : St) (w : Nat) : St := su (su τ 0 10 (nI w)) 51 w (τ.1 51 w + 1)
def fnd (σ : St) (w : Nat) : St := su (su σ 0 20 (nI w)) 15 w (σ.1 15 w + 1)
theorem refu_ev (τ : St) {w : Nat} (h : w < 6) : fX10_refuse τ (nI w) = some (refu τ w, -3) := by
  unfold fX10_refuse
  rw [pt_s, rdC h, wrC h, su_o (by decide)]
  rfl
theorem fnd_ev (σ : St) {w : Nat} (h : w < 6) : fX11_found σ (nI w) = some (fnd σ w, -3) := by
  unfold fX11_found
  rw [pt_s, rdM h, wrM h, su_o (by decide)]
  rfl
