/-! shopping: pure -/
theorem tb_or (S c d : Nat) : (S ||| 2 ^ c).testBit d = (S.testBit d || decide (c = d)) := by
  rw [Nat.testBit_or, Nat.testBit_two_pow]
def bet (o : Nat) (co ti : Nat → Nat) (c d : Nat) : Bool := if o = 0 then false else if o = 1 then decide (co c < co d) else if o = 2 then decide (co d < co c) else decide (ti d * co c < ti c * co d)
theorem bet_asym {o : Nat} {co ti : Nat → Nat} {c d : Nat} (h : bet o co ti c d = true) : bet o co ti d c = false := by
  unfold bet at h ⊢
  by_cases o0 : o = 0
  · rw [if_pos o0]
  · rw [if_neg o0] at h ⊢
    by_cases o1 : o = 1
    · rw [if_pos o1] at h ⊢
      rw [decide_eq_true_eq] at h
      rw [decide_eq_false_iff_not]
      omega
    · rw [if_neg o1] at h ⊢
      by_cases o2 : o = 2
      · rw [if_pos o2] at h ⊢
        rw [decide_eq_true_eq] at h
        rw [decide_eq_false_iff_not]
        omega
      · rw [if_neg o2] at h ⊢
        rw [decide_eq_true_eq] at h
        rw [decide_eq_false_iff_not]
        omega
theorem bet_ntr {o : Nat} {co ti : Nat → Nat} {c d e : Nat} (he : 1 ≤ co e) (h : bet o co ti c d = true) (h1 : bet o co ti e d = false) : bet o co ti c e = true := by
  unfold bet at h h1 ⊢
  by_cases o0 : o = 0
  · rw [if_pos o0] at h
    cases h
  · rw [if_neg o0] at h h1 ⊢
    by_cases o1 : o = 1
    · rw [if_pos o1] at h h1 ⊢
      rw [decide_eq_true_eq] at h ⊢
      rw [decide_eq_false_iff_not] at h1
      omega
    · rw [if_neg o1] at h h1 ⊢
      by_cases o2 : o = 2
      · rw [if_pos o2] at h h1 ⊢
        rw [decide_eq_true_eq] at h ⊢
        rw [decide_eq_false_iff_not] at h1
        omega
      · rw [if_neg o2] at h h1 ⊢
        rw [decide_eq_true_eq] at h ⊢
        rw [decide_eq_false_iff_not] at h1
        have h2 : ti e * co d ≤ ti d * co e := by omega
        refine Nat.lt_of_not_le (fun h3 => ?_)
        have k1 : ti c * co e * co d ≤ ti e * co c * co d := Nat.mul_le_mul_right _ h3
        have k2 : ti e * co d * co c ≤ ti d * co e * co c := Nat.mul_le_mul_right _ h2
        have k3 : ti d * co c * co e < ti c * co d * co e := Nat.mul_lt_mul_of_pos_right h (by omega)
        rw [Nat.mul_right_comm] at k1
        rw [Nat.mul_right_comm (ti e) (co c) (co d)] at k1
        rw [Nat.mul_right_comm (ti d) (co e) (co c)] at k2
        omega
def pkF (o : Nat) (co ti : Nat → Nat) (S : Nat) (b : Option Nat) (c : Nat) : Option Nat := if S.testBit c then b else match b with
  | none => some c
  | some d => if bet o co ti c d then some c else some d
def pck (o : Nat) (co ti : Nat → Nat) (C S : Nat) : Option Nat := fo (pkF o co ti S) 0 C none
def isP (o : Nat) (co ti : Nat → Nat) (m S b : Nat) : Prop := b < m ∧ S.testBit b = false ∧ ∀ d, d < m → S.testBit d = false → (d < b → bet o co ti b d = true) ∧ (b < d → bet o co ti d b = false)
theorem pk_some {o : Nat} {co ti : Nat → Nat} {C S : Nat} (hco : ∀ c, c < C → 1 ≤ co c) : ∀ m, m ≤ C → (∀ b, fo (pkF o co ti S) 0 m none = some b → isP o co ti m S b) ∧ (fo (pkF o co ti S) 0 m none = none → ∀ d, d < m → S.testBit d = true)
  | 0, _ => ⟨fun b h => (by cases h), fun _ d hd => absurd hd (by omega)⟩
  | m + 1, hm => by
    obtain ⟨i1, i2⟩ := pk_some (o := o) (ti := ti) (S := S) hco m (by omega)
    rw [fo_succ, Nat.zero_add]
    revert i1 i2
    generalize fo (pkF o co ti S) 0 m none = b0
    intro i1 i2
    unfold pkF
    by_cases q : S.testBit m = true
    · rw [if_pos q]
      refine ⟨fun b h => ?_, fun h d hd => ?_⟩
      · obtain ⟨j1, j2, j3⟩ := i1 b h
        refine ⟨by omega, j2, fun d hd hs => ?_⟩
        by_cases z : d = m
        · rw [z, q] at hs
          cases hs
        · exact j3 d (by omega) hs
      · by_cases z : d = m
        · rw [z]
          exact q
        · exact i2 h d (by omega)
    · rw [if_neg q]
      have q' : S.testBit m = false := by
        cases z : S.testBit m
        · rfl
        · exact absurd z q
      cases b0 with
      | none =>
        refine ⟨fun b h => ?_, fun h => (by cases h)⟩
        cases h
        refine ⟨by omega, q', fun d hd hs => ⟨fun lt => ?_, fun lt => absurd lt (by omega)⟩⟩
        have := i2 rfl d lt
        rw [hs] at this
        cases this
      | some e =>
        obtain ⟨j1, j2, j3⟩ := i1 e rfl
        simp only
        by_cases w : bet o co ti m e = true
        · rw [if_pos w]
          refine ⟨fun b h => ?_, fun h => (by cases h)⟩
          cases h
          refine ⟨by omega, q', fun d hd hs => ⟨fun lt => ?_, fun lt => absurd lt (by omega)⟩⟩
          by_cases z : d = e
          · rw [z]
            exact w
          · have de : bet o co ti d e = false := by
              by_cases z2 : d < e
              · exact bet_asym ((j3 d lt hs).1 z2)
              · exact (j3 d lt hs).2 (by omega)
            exact bet_ntr (hco d (by omega)) w de
        · rw [if_neg w]
          refine ⟨fun b h => ?_, fun h => (by cases h)⟩
          cases h
          refine ⟨by omega, j2, fun d hd hs => ?_⟩
          by_cases z : d = m
          · rw [z]
            refine ⟨fun lt => absurd lt (by omega), fun _ => ?_⟩
            cases y : bet o co ti m e
            · rfl
            · exact absurd y w
          · exact j3 d (by omega) hs
theorem pck_or {o : Nat} {co ti : Nat → Nat} {C S W c : Nat} (hco : ∀ c, c < C → 1 ≤ co c) (h : pck o co ti C S = some c) (hw : W.testBit c = false) : pck o co ti C (S ||| W) = some c := by
  obtain ⟨j1, j2, j3⟩ := (pk_some (o := o) (ti := ti) (S := S) hco C (Nat.le_refl C)).1 c h
  obtain ⟨i1, i2⟩ := pk_some (o := o) (ti := ti) (S := S ||| W) hco C (Nat.le_refl C)
  have cU : (S ||| W).testBit c = false := by rw [Nat.testBit_or, j2, hw]; rfl
  unfold pck
  revert i1 i2
  generalize fo (pkF o co ti (S ||| W)) 0 C none = b0
  intro i1 i2
  cases b0 with
  | none =>
    have := i2 rfl c j1
    rw [cU] at this
    cases this
  | some b =>
    obtain ⟨k1, k2, k3⟩ := i1 b rfl
    have bS : S.testBit b = false := by
      rw [Nat.testBit_or] at k2
      cases z : S.testBit b
      · rfl
      · rw [z] at k2
        cases k2
    by_cases z : b = c
    · rw [z]
    · exfalso
      by_cases lt : c < b
      · have a1 := (k3 c j1 cU).1 lt
        have a2 := (j3 b k1 bS).2 lt
        rw [a1] at a2
        cases a2
      · have a1 := (j3 b k1 bS).1 (by omega)
        have a2 := (k3 c j1 cU).2 (by omega)
        rw [a1] at a2
        cases a2
def un (S : Nat) : Nat → Nat
  | 0 => 0
  | n + 1 => un S n + (if S.testBit n then 0 else 1)
theorem un_all {S : Nat} : ∀ n, un S n = 0 → ∀ d, d < n → S.testBit d = true
  | 0, _, d, hd => absurd hd (by omega)
  | n + 1, h, d, hd => by
    have h1 : un S n + (if S.testBit n then 0 else 1) = 0 := h
    by_cases q : S.testBit n = true
    · by_cases z : d = n
      · rw [z]
        exact q
      · exact un_all n (by omega) d (by omega)
    · rw [if_neg q] at h1
      omega
theorem un_zero {S : Nat} : ∀ n, (∀ d, d < n → S.testBit d = true) → un S n = 0
  | 0, _ => rfl
  | n + 1, h => by
    show un S n + (if S.testBit n then 0 else 1) = 0
    rw [if_pos (h n (by omega)), un_zero n (fun d hd => h d (by omega))]
theorem un_0 : ∀ n, un 0 n = n
  | 0 => rfl
  | n + 1 => by
    show un 0 n + (if (0 : Nat).testBit n then 0 else 1) = n + 1
    rw [Nat.zero_testBit, un_0 n]
    rfl
theorem un_ge {S c : Nat} : ∀ n, n ≤ c → un (S ||| 2 ^ c) n = un S n
  | 0, _ => rfl
  | n + 1, h => by
    show un (S ||| 2 ^ c) n + (if (S ||| 2 ^ c).testBit n then 0 else 1) = un S n + (if S.testBit n then 0 else 1)
    rw [un_ge n (by omega), tb_or, show decide (c = n) = false from decide_eq_false (by omega), Bool.or_false]
theorem un_or {S c : Nat} (hs : S.testBit c = false) : ∀ n, c < n → un (S ||| 2 ^ c) n + 1 = un S n
  | 0, h => absurd h (by omega)
  | n + 1, h => by
    show un (S ||| 2 ^ c) n + (if (S ||| 2 ^ c).testBit n then 0 else 1) + 1 = un S n + (if S.testBit n then 0 else 1)
    by_cases z : c = n
    · rw [un_ge n (by omega), tb_or, z, decide_eq_true rfl, Bool.or_true, if_pos rfl]
      rw [z] at hs
      rw [hs]
      rfl
    · have := un_or hs n (by omega)
      rw [tb_or, show decide (c = n) = false from decide_eq_false z, Bool.or_false]
      omega
def sm (co : Nat → Nat) (g : Nat) : Nat → Nat
  | 0 => 0
  | n + 1 => sm co g n + (if g.testBit n then co n else 0)
theorem sm_ge {co : Nat → Nat} {S c : Nat} : ∀ n, n ≤ c → sm co (S ||| 2 ^ c) n = sm co S n
  | 0, _ => rfl
  | n + 1, h => by
    show sm co (S ||| 2 ^ c) n + (if (S ||| 2 ^ c).testBit n then co n else 0) = sm co S n + (if S.testBit n then co n else 0)
    rw [sm_ge n (by omega), tb_or, show decide (c = n) = false from decide_eq_false (by omega), Bool.or_false]
theorem sm_or {co : Nat → Nat} {S c : Nat} (hs : S.testBit c = false) : ∀ n, c < n → sm co (S ||| 2 ^ c) n = sm co S n + co c
  | 0, h => absurd h (by omega)
  | n + 1, h => by
    show sm co (S ||| 2 ^ c) n + (if (S ||| 2 ^ c).testBit n then co n else 0) = sm co S n + (if S.testBit n then co n else 0) + co c
    by_cases z : c = n
    · rw [sm_ge n (by omega), tb_or, z, decide_eq_true rfl, Bool.or_true, if_pos rfl]
      rw [z] at hs
      rw [hs]
      simp
    · have := sm_or (co := co) hs n (by omega)
      rw [tb_or, show decide (c = n) = false from decide_eq_false z, Bool.or_false]
      omega
theorem sm_0 {co : Nat → Nat} : ∀ n, sm co 0 n = 0
  | 0 => rfl
  | n + 1 => by
    show sm co 0 n + (if (0 : Nat).testBit n then co n else 0) = 0
    rw [Nat.zero_testBit, sm_0 n]
    rfl
abbrev T3 : Type := Nat × Nat × Nat
def stC (o : Nat) (co ti : Nat → Nat) (C W : Nat) (x : T3) : T3 := match pck o co ti C x.1 with
  | none => x
  | some c => if W.testBit c then (x.1 ||| 2 ^ c, x.2.1, x.2.2) else if x.2.1 < co c then (x.1 ||| 2 ^ c, x.2.1, x.2.2) else (x.1 ||| 2 ^ c, x.2.1 - co c, x.2.2 ||| 2 ^ c)
def stM (o : Nat) (co ti : Nat → Nat) (C : Nat) (x : T3) : T3 := match pck o co ti C x.1 with
  | none => x
  | some c => if x.2.1 < co c then (x.1 ||| 2 ^ c, x.2.1, x.2.2) else (x.1 ||| 2 ^ c, x.2.1 - co c, x.2.2 ||| 2 ^ c)
def itC (o : Nat) (co ti : Nat → Nat) (C W l : Nat) : Nat → T3
  | 0 => (0, l, 0)
  | n + 1 => stC o co ti C W (itC o co ti C W l n)
def itM (o : Nat) (co ti : Nat → Nat) (C W l : Nat) : Nat → T3
  | 0 => (W, l, 0)
  | n + 1 => stM o co ti C (itM o co ti C W l n)
def sOk (co : Nat → Nat) (C l : Nat) (x : T3) : Prop := x.1 < 2 ^ C ∧ x.2.1 ≤ l ∧ x.2.2 < 2 ^ C ∧ (∀ d, x.2.2.testBit d = true → x.1.testBit d = true) ∧ x.2.1 + sm co x.2.2 C = l
theorem or_lt {S C c : Nat} (h : S < 2 ^ C) (hc : c < C) : S ||| 2 ^ c < 2 ^ C := Nat.or_lt_two_pow h (Nat.pow_lt_pow_right (by omega) hc)
theorem itC_ok {o : Nat} {co ti : Nat → Nat} {C W l : Nat} (hco : ∀ c, c < C → 1 ≤ co c) : ∀ n, n ≤ C → sOk co C l (itC o co ti C W l n) ∧ un (itC o co ti C W l n).1 C + n = C
  | 0, _ => by
    refine ⟨⟨Nat.two_pow_pos C, Nat.le_refl l, Nat.two_pow_pos C, fun d h => ?_, ?_⟩, ?_⟩
    · rw [show (itC o co ti C W l 0).2.2 = 0 from rfl, Nat.zero_testBit] at h
      cases h
    · show l + sm co 0 C = l
      rw [sm_0, Nat.add_zero]
    · show un 0 C + 0 = C
      rw [un_0, Nat.add_zero]
  | n + 1, hn => by
    obtain ⟨⟨i1, i2, i3, i4, i5⟩, i6⟩ := itC_ok (o := o) (ti := ti) (W := W) (l := l) hco n (by omega)
    show sOk co C l (stC o co ti C W (itC o co ti C W l n)) ∧ un (stC o co ti C W (itC o co ti C W l n)).1 C + (n + 1) = C
    revert i1 i2 i3 i4 i5 i6
    generalize itC o co ti C W l n = x
    intro i6 i1 i2 i3 i4 i5
    obtain ⟨p1, p2⟩ := pk_some (o := o) (ti := ti) (S := x.1) hco C (Nat.le_refl C)
    unfold stC
    cases hp : pck o co ti C x.1 with
    | none =>
      have := un_zero C (p2 hp)
      omega
    | some c =>
      obtain ⟨j1, j2, j3⟩ := p1 c hp
      have u := un_or j2 C j1
      have lt := or_lt i1 j1
      have sub : ∀ d, x.2.2.testBit d = true → (x.1 ||| 2 ^ c).testBit d = true := fun d h => by
        rw [tb_or, i4 d h]
        rfl
      have g0 : x.2.2.testBit c = false := by
        cases z : x.2.2.testBit c
        · rfl
        · have := i4 c z
          rw [j2] at this
          cases this
      simp only
      by_cases w : W.testBit c = true
      · rw [if_pos w]
        exact ⟨⟨lt, i2, i3, sub, i5⟩, by show un (x.1 ||| 2 ^ c) C + (n + 1) = C; omega⟩
      · rw [if_neg w]
        by_cases y : x.2.1 < co c
        · rw [if_pos y]
          exact ⟨⟨lt, i2, i3, sub, i5⟩, by show un (x.1 ||| 2 ^ c) C + (n + 1) = C; omega⟩
        · rw [if_neg y]
          refine ⟨⟨lt, by show x.2.1 - co c ≤ l; omega, or_lt i3 j1, fun d h => ?_, ?_⟩, by show un (x.1 ||| 2 ^ c) C + (n + 1) = C; omega⟩
          · have h' : (x.2.2 ||| 2 ^ c).testBit d = true := h
            rw [tb_or] at h'
            show (x.1 ||| 2 ^ c).testBit d = true
            rw [tb_or]
            cases z : x.2.2.testBit d
            · rw [z] at h'
              rw [Bool.false_or] at h'
              rw [h', Bool.or_true]
            · rw [i4 d z]
              rfl
          · show x.2.1 - co c + sm co (x.2.2 ||| 2 ^ c) C = l
            rw [sm_or g0 C j1]
            omega
theorem itC_pck {o : Nat} {co ti : Nat → Nat} {C W l : Nat} (hco : ∀ c, c < C → 1 ≤ co c) {n : Nat} (hn : n < C) : ∃ c, pck o co ti C (itC o co ti C W l n).1 = some c ∧ c < C := by
  obtain ⟨-, u⟩ := itC_ok (o := o) (ti := ti) (W := W) (l := l) hco n (by omega)
  obtain ⟨p1, p2⟩ := pk_some (o := o) (ti := ti) (S := (itC o co ti C W l n).1) hco C (Nat.le_refl C)
  cases hp : pck o co ti C (itC o co ti C W l n).1 with
  | none =>
    have := un_zero C (p2 hp)
    omega
  | some c => exact ⟨c, rfl, (p1 c hp).1⟩
theorem sims {o : Nat} {co ti : Nat → Nat} {C W l : Nat} (hco : ∀ c, c < C → 1 ≤ co c) : ∀ n, n ≤ C → ∃ i, i ≤ n ∧ itM o co ti C W l i = ((itC o co ti C W l n).1 ||| W, (itC o co ti C W l n).2.1, (itC o co ti C W l n).2.2)
  | 0, _ => ⟨0, Nat.le_refl 0, by
    show (W, l, 0) = (0 ||| W, l, 0)
    rw [Nat.zero_or]⟩
  | n + 1, hn => by
    obtain ⟨i, hi, e⟩ := sims (o := o) (ti := ti) (W := W) (l := l) hco n (by omega)
    obtain ⟨c, hp, hc⟩ := itC_pck (o := o) (ti := ti) (W := W) (l := l) hco (n := n) (by omega)
    have e1 : itC o co ti C W l (n + 1) = stC o co ti C W (itC o co ti C W l n) := rfl
    rw [e1]
    revert e hp
    generalize itC o co ti C W l n = x
    intro e hp
    unfold stC
    rw [hp]
    simp only
    by_cases w : W.testBit c = true
    · refine ⟨i, by omega, ?_⟩
      rw [if_pos w, e]
      have : x.1 ||| 2 ^ c ||| W = x.1 ||| W := Nat.eq_of_testBit_eq (fun d => by
        rw [Nat.testBit_or, tb_or, Nat.testBit_or]
        by_cases z : c = d
        · rw [← z, w, Bool.or_true, Bool.or_true]
        · rw [show decide (c = d) = false from decide_eq_false z, Bool.or_false])
      simp only
      rw [this]
    · refine ⟨i + 1, by omega, ?_⟩
      have w' : W.testBit c = false := by
        cases z : W.testBit c
        · rfl
        · exact absurd z w
      have c1 : x.1 ||| W ||| 2 ^ c = x.1 ||| 2 ^ c ||| W := by
        rw [Nat.or_assoc, Nat.or_comm W, ← Nat.or_assoc]
      show stM o co ti C (itM o co ti C W l i) = _
      rw [if_neg w, e]
      unfold stM
      simp only
      rw [pck_or hco hp w']
      simp only
      by_cases y : x.2.1 < co c
      · rw [if_pos y, if_pos y]
        simp only
        rw [c1]
      · rw [if_neg y, if_neg y]
        simp only
        rw [c1]
theorem itM_end {o : Nat} {co ti : Nat → Nat} {C W l : Nat} (hco : ∀ c, c < C → 1 ≤ co c) : itM o co ti C W l C = ((itC o co ti C W l C).1 ||| W, (itC o co ti C W l C).2.1, (itC o co ti C W l C).2.2) := by
  obtain ⟨i, hi, e⟩ := sims (o := o) (ti := ti) (W := W) (l := l) hco C (Nat.le_refl C)
  obtain ⟨-, u⟩ := itC_ok (o := o) (ti := ti) (W := W) (l := l) hco C (Nat.le_refl C)
  have all := un_all C (show un (itC o co ti C W l C).1 C = 0 by omega)
  have p2 := (pk_some (o := o) (ti := ti) (S := (itC o co ti C W l C).1 ||| W) hco C (Nat.le_refl C)).1
  have st : ∀ k, itM o co ti C W l (i + k) = itM o co ti C W l i := by
    intro k
    induction k with
    | zero => rfl
    | succ k ih =>
      show stM o co ti C (itM o co ti C W l (i + k)) = _
      rw [ih, e]
      unfold stM
      simp only
      cases hp : pck o co ti C ((itC o co ti C W l C).1 ||| W) with
      | none => rfl
      | some c =>
        exfalso
        obtain ⟨j1, j2, -⟩ := p2 c hp
        rw [Nat.testBit_or, all c j1] at j2
        cases j2
  have := st (C - i)
  rw [show i + (C - i) = C by omega] at this
  rw [this, e]
