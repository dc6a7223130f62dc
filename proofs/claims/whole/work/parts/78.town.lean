/-! a town stays within its bounds -/
theorem beginOk {P : Pl} (hP : PlanOk P) : TwOk P (beginT P) := by
  obtain ⟨h6, h8, -, hk, -⟩ := hP
  refine ⟨?_, fun h hh => ?_, fun h h1 h2 => ?_, fun h c hh hc hne => ?_⟩
  · unfold beginT
    rw [if_neg (by omega)]
    omega
  · unfold beginT
    rw [if_pos (by omega), Nat.add_sub_cancel_left]
    have := (hk h hh).2
    omega
  · unfold beginT
    rw [if_neg (by omega)]
  · exact absurd (show beginT P (7 + 8 * h + c) = 0 by unfold beginT; rw [if_neg (by omega)]) hne
theorem monthOk {P : Pl} {t : Tw} (ht : TwOk P t) (h99 : t 0 < 99) : TwOk P (monthT P t) := by
  obtain ⟨h1, h2, h3, h4⟩ := ht
  refine ⟨?_, fun h hh => ?_, fun h a b => ?_, fun h c hh hc hne => ?_⟩
  · show t 0 + 1 ≤ 99
    omega
  · unfold monthT
    by_cases h6 : h < 6
    · rw [if_neg (by omega), if_pos (by omega), if_pos (by omega)]
      exact nxt_le _ _ _
    · rw [if_neg (by omega), if_neg (by omega)]
      have := h2 h hh
      by_cases q : t (1 + h) ≤ t 0 + 1
      · rw [if_pos q]; omega
      · rw [if_neg q]; exact this
  · unfold monthT
    rw [if_neg (by omega), if_pos (by omega), if_neg (by omega)]
    exact h3 h a b
  · have e1 : monthT P t (7 + 8 * h + c) = if t (7 + 8 * h + c) ≤ t 0 + 1 then 0 else t (7 + 8 * h + c) := by
      unfold monthT
      rw [if_neg (by omega), if_neg (by omega)]
    have e2 : monthT P t 0 = t 0 + 1 := rfl
    rw [e1] at hne
    rw [e1, e2]
    by_cases q : t (7 + 8 * h + c) ≤ t 0 + 1
    · rw [if_pos q] at hne
      exact absurd rfl hne
    · rw [if_neg q] at hne ⊢
      obtain ⟨a, b, c1, d⟩ := h4 h c hh hc hne
      exact ⟨a, b, by omega, by omega⟩
theorem buyOk {P : Pl} {t : Tw} (hP : PlanOk P) (ht : TwOk P t) {h c : Nat} (hh : h < pH P) (hc : c < pC P) : TwOk P (buyT P t h c) := by
  obtain ⟨h6, h8, -, hk, hl⟩ := hP
  obtain ⟨h1, h2, h3, h4⟩ := ht
  obtain ⟨-, l1, -⟩ := hl c hc
  have hp := hold_pos (k := kd P h) l1.1
  have hq := hold_le (k := kd P h) l1.2
  have e0 : buyT P t h c 0 = t 0 := by unfold buyT; rw [if_neg (by omega), if_neg (by omega)]
  refine ⟨by rw [e0]; exact h1, fun g hg => ?_, fun g a b => ?_, fun g d hg hd hne => ?_⟩
  · unfold buyT
    by_cases q : 1 + g = 1 + h
    · rw [if_pos q]
      have := h2 h hh
      omega
    · rw [if_neg q, if_neg (by omega)]
      exact h2 g hg
  · unfold buyT
    rw [if_neg (by omega), if_neg (by omega)]
    exact h3 g a b
  · rw [e0]
    unfold buyT at hne ⊢
    rw [if_neg (by omega)] at hne ⊢
    by_cases q : 7 + 8 * g + d = 7 + 8 * h + c
    · rw [if_pos q]
      refine ⟨by omega, by omega, by omega, by omega⟩
    · rw [if_neg q] at hne ⊢
      exact h4 g d hg hd hne
theorem tradeOk {P : Pl} {t : Tw} (hP : PlanOk P) (ht : TwOk P t) {h c g d : Nat} (hh : h < pH P) (hg : g < pH P) (hc : c < pC P) (hd : d < pC P) (n1 : t (7 + 8 * h + c) ≠ 0) (n2 : t (7 + 8 * g + d) ≠ 0) : TwOk P (tradeT t h c g d) := by
  obtain ⟨h6, h8, -, -, -⟩ := hP
  obtain ⟨h1, h2, h3, h4⟩ := ht
  have low : ∀ j, j < 7 → tradeT t h c g d j = t j := fun j hj => by
    unfold tradeT
    rw [if_neg (by omega), if_neg (by omega), if_neg (by omega), if_neg (by omega)]
  refine ⟨by rw [low 0 (by omega)]; exact h1, fun x hx => by rw [low _ (by omega)]; exact h2 x hx, fun x a b => by rw [low _ (by omega)]; exact h3 x a b, fun x y hx hy hne => ?_⟩
  rw [low 0 (by omega)]
  have a1 := h4 h c (by omega) (by omega) n1
  have a2 := h4 g d (by omega) (by omega) n2
  unfold tradeT at hne ⊢
  by_cases q1 : 7 + 8 * x + y = 7 + 8 * g + c
  · rw [if_pos q1] at hne ⊢
    exact ⟨by omega, by omega, a1.2.2.1, a1.2.2.2⟩
  · rw [if_neg q1] at hne ⊢
    by_cases q2 : 7 + 8 * x + y = 7 + 8 * h + d
    · rw [if_pos q2] at hne ⊢
      exact ⟨by omega, by omega, a2.2.2.1, a2.2.2.2⟩
    · rw [if_neg q2] at hne ⊢
      by_cases q3 : 7 + 8 * x + y = 7 + 8 * h + c
      · rw [if_pos q3] at hne
        exact absurd rfl hne
      · rw [if_neg q3] at hne ⊢
        by_cases q4 : 7 + 8 * x + y = 7 + 8 * g + d
        · rw [if_pos q4] at hne
          exact absurd rfl hne
        · rw [if_neg q4] at hne ⊢
          exact h4 x y hx hy hne
theorem lendOk {P : Pl} {t : Tw} (hP : PlanOk P) (ht : TwOk P t) {h g n : Nat} (hh : h < pH P) (hg : g < pH P) (hn : t (1 + g) + n ≤ 99) : TwOk P (lendT t h g n) := by
  obtain ⟨h6, h8, -, -, -⟩ := hP
  obtain ⟨h1, h2, h3, h4⟩ := ht
  have e0 : ∀ j, j = 0 ∨ 7 ≤ j → lendT t h g n j = t j := fun j hj => by
    unfold lendT
    rw [if_neg (by omega), if_neg (by omega)]
  refine ⟨by rw [e0 0 (Or.inl rfl)]; exact h1, fun x hx => ?_, fun x a b => ?_, fun x y hx hy hne => ?_⟩
  · unfold lendT
    by_cases q : 1 + x = 1 + h
    · rw [if_pos q]
      have := h2 h hh
      omega
    · rw [if_neg q]
      by_cases q2 : 1 + x = 1 + g
      · rw [if_pos q2]; exact hn
      · rw [if_neg q2]; exact h2 x hx
  · unfold lendT
    rw [if_neg (by omega), if_neg (by omega)]
    exact h3 x a b
  · rw [e0 (7 + 8 * x + y) (Or.inr (by omega))] at hne
    rw [e0 (7 + 8 * x + y) (Or.inr (by omega)), e0 0 (Or.inl rfl)]
    exact h4 x y hx hy hne
theorem perfOk {P : Pl} {t : Tw} {d : Nat} (hP : PlanOk P) (ht : TwOk P t) (hv : valid P t d) : TwOk P (perf P t d) := by
  unfold perf
  obtain ⟨-, h | ⟨h, a⟩ | ⟨h, a, b, c, e⟩ | ⟨h, a1, a2, a3, a4, a5, a6, a7, a8, a9, a10⟩ | ⟨h, a1, a2, a3, a4, a5, a6, a7⟩⟩ := hv
  · rw [if_neg (by omega), if_neg (by omega), if_neg (by omega), if_neg (by omega)]
    exact ht
  · rw [if_pos h]
    exact monthOk ht a
  · rw [if_neg (by omega), if_pos h]
    exact buyOk hP ht a b
  · rw [if_neg (by omega), if_neg (by omega), if_pos h]
    exact tradeOk hP ht a1 a2 a3 a4 a7 a8
  · rw [if_neg (by omega), if_neg (by omega), if_neg (by omega), if_pos h]
    exact lendOk hP ht a1 a2 a7
theorem repOk {P : Pl} {ds : Nat → Nat} {n : Nat} (hP : PlanOk P) (hd : DdOk P ds n) : ∀ i, i ≤ n → TwOk P (rep P ds i) := by
  intro i
  induction i with
  | zero => exact fun _ => beginOk hP
  | succ i ih => exact fun h => perfOk hP (ih (by omega)) (hd.2 i (by omega))
theorem endLe {P : Pl} {t : Tw} (ht : TwOk P t) {h c : Nat} (hh : h < 6) (hc : c < 8) : t (7 + 8 * h + c) ≤ 110 := by
  by_cases q : t (7 + 8 * h + c) = 0
  · omega
  · have := (ht.2.2.2 h c hh hc q).2.2.2
    have := ht.1
    omega
