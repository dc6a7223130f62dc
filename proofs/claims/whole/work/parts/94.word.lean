/-! step: word -/
def cmpS (A B : Nat → Nat) : Nat → Nat → Int
  | _, 0 => 0
  | s, m + 1 => if A s = B s then cmpS A B (s + 1) m else if A s < B s then -1 else 1
theorem cmpS_neg (A B : Nat → Nat) : ∀ m s, cmpS A B s m = - cmpS B A s m
  | 0, _ => rfl
  | m + 1, s => by
    unfold cmpS
    by_cases q : A s = B s
    · rw [if_pos q, if_pos q.symm]
      exact cmpS_neg A B m (s + 1)
    · rw [if_neg q, if_neg (show ¬ B s = A s from fun z => q z.symm)]
      by_cases w : A s < B s
      · rw [if_pos w, if_neg (show ¬ B s < A s by omega)]
      · rw [if_neg w, if_pos (show B s < A s by omega)]
        rfl
theorem cmpS_eq {A B : Nat → Nat} : ∀ m s, (∀ i, s ≤ i → i < s + m → A i = B i) → cmpS A B s m = 0
  | 0, _, _ => rfl
  | m + 1, s, h => by
    unfold cmpS
    rw [if_pos (h s (by omega) (by omega))]
    exact cmpS_eq m (s + 1) (fun i a b => h i (by omega) (by omega))
theorem cmpS_inv {A B : Nat → Nat} : ∀ m s, cmpS A B s m = 0 → ∀ i, s ≤ i → i < s + m → A i = B i
  | 0, _, _, i, a, b => absurd b (by omega)
  | m + 1, s, h, i, a, b => by
    unfold cmpS at h
    by_cases q : A s = B s
    · rw [if_pos q] at h
      by_cases z : i = s
      · rw [z]
        exact q
      · exact cmpS_inv m (s + 1) h i (by omega) (by omega)
    · rw [if_neg q] at h
      split at h <;> omega
theorem cmpS_congr {A B A' B' : Nat → Nat} : ∀ m s, (∀ i, s ≤ i → i < s + m → A i = A' i ∧ B i = B' i) → cmpS A B s m = cmpS A' B' s m
  | 0, _, _ => rfl
  | m + 1, s, h => by
    unfold cmpS
    rw [(h s (by omega) (by omega)).1, (h s (by omega) (by omega)).2, cmpS_congr m (s + 1) (fun i a b => h i (by omega) (by omega))]
def pd (z l : Nat) (a : Nat → Nat) (i : Nat) : Nat := if i < l then z + a i else 0
theorem isAheadM {σ : St} {p0 p2 o1 o2 : Nat} {A B : Nat → Nat} (hA : ∀ i, i < 7 → A i < 1000 ∧ σ.1 p0 (o1 + i) = nI (A i)) (hB : ∀ i, i < 7 → B i < 1000 ∧ σ.1 p2 (o2 + i) = nI (B i)) (b1 : o1 + 7 ≤ LM p0) (b2 : o2 + 7 ≤ LM p2) : fX11_isAhead σ p0 (nI o1) p2 (nI o2) = some (σ, if cmpS A B 0 7 < 0 then 1 else 0) := by
  have K : ∀ s, s < 7 → rd LM σ p0 (nI o1 + nI s) (fun x7 => rd LM σ p2 (nI o2 + nI s) (fun x8 => (if x8 ≤ x7 then some (σ, (0 : Int32)) else some (σ, 1)))) = some (σ, if A s < B s then 1 else 0) := fun s hs => by
    have h1 := hA s hs
    have h2 := hB s hs
    rw [nI_add, rdM (show o1 + s < LM p0 by omega), h1.2, nI_add, rdM (show o2 + s < LM p2 by omega), h2.2]
    by_cases q : A s < B s
    · rw [if_pos q, if_neg (nI_ge q (by omega))]
    · rw [if_neg q, if_pos (nI_le (by omega) (by omega))]
  have L : ∀ (m s f : Nat), s + m = 6 → m < f → fX11_isAhead_L3 p0 (nI o1) p2 (nI o2) f σ (nI s) (fun σ5 v6 => rd LM σ5 p0 (nI o1 + v6) (fun x7 => rd LM σ5 p2 (nI o2 + v6) (fun x8 => (if x8 ≤ x7 then some (σ5, 0) else some (σ5, 1))))) = some (σ, if cmpS A B s (m + 1) < 0 then 1 else 0) := by
    intro m
    induction m with
    | zero =>
      intro s f hs hf
      match f, hf with
      | f + 1, _ =>
        rw [fX11_isAhead_L3, if_pos (show (6 : Int32) ≤ nI s from nI_le (a := 6) (by omega) (by omega)), K s (by omega)]
        unfold cmpS
        by_cases q : A s = B s
        · rw [if_pos q, if_neg (by omega)]
          rfl
        · rw [if_neg q]
          by_cases w : A s < B s
          · rw [if_pos w, if_pos w]
            rfl
          · rw [if_neg w, if_neg w]
            rfl
    | succ m ih =>
      intro s f hs hf
      match f, hf with
      | f + 1, hf =>
        have h1 := hA s (by omega)
        have h2 := hB s (by omega)
        have K1 := K s (by omega)
        rw [fX11_isAhead_L3, if_neg (show ¬ (6 : Int32) ≤ nI s from nI_ge (b := 6) (by omega) (by omega)), K1, nI_add, rdM (show o1 + s < LM p0 by omega), h1.2, nI_add, rdM (show o2 + s < LM p2 by omega), h2.2]
        unfold cmpS
        by_cases q : A s = B s
        · rw [if_pos q, if_pos (by rw [q]), nI_1, ih (s + 1) f (by omega) (by omega)]
        · rw [if_neg q, if_neg (fun z => q ((nI_eq (by omega) (by omega)).mp z))]
          by_cases w : A s < B s
          · rw [if_pos w, if_pos w]
            rfl
          · rw [if_neg w, if_neg w]
            rfl
  unfold fX11_isAhead
  rw [L_0]
  exact L 6 0 10000 (by omega) (by omega)
theorem runsC {τ : St} {p0 p3 o1 o2 la lb z : Nat} {a b : Nat → Nat} (ha : ∀ i, i < la → a i < 1000 ∧ 1 ≤ z + a i ∧ τ.1 p0 (o1 + i) = nI (a i)) (hb : ∀ i, i < lb → b i < 1000 ∧ 1 ≤ z + b i ∧ τ.1 p3 (o2 + i) = nI (b i)) (l7 : la ≤ 7) (m7 : lb ≤ 7) (b1 : o1 + la ≤ LC p0) (b2 : o2 + lb ≤ LC p3) : ∃ r, fX6_compareRuns τ p0 (nI o1) (nI la) p3 (nI o2) (nI lb) = some (τ, r) ∧ (r = 0 ↔ cmpS (pd z la a) (pd z lb b) 0 7 = 0) ∧ (r < 0 ↔ cmpS (pd z la a) (pd z lb b) 0 7 < 0) := by
  have L : ∀ (m s f : Nat), s + m = min la lb → m < f → ∃ r, fX6_compareRuns_L11 p0 (nI o1) (nI la) p3 (nI o2) (nI lb) (nI (min la lb)) f τ (nI s) (fun σ8 v9 => some (σ8, nI la - nI lb)) = some (τ, r) ∧ (r = 0 ↔ cmpS (pd z la a) (pd z lb b) s (7 - s) = 0) ∧ (r < 0 ↔ cmpS (pd z la a) (pd z lb b) s (7 - s) < 0) := by
    intro m
    induction m with
    | zero =>
      intro s f hs hf
      match f, hf with
      | f + 1, _ =>
        rw [fX6_compareRuns_L11, if_pos (nI_le (by omega) (by omega))]
        refine ⟨_, rfl, ?_⟩
        have e := pk_sub_toInt (a := la) (b := lb) (by omega) (by omega)
        have z0 : (nI la - nI lb = 0) ↔ (nI la - nI lb).toInt = 0 := ⟨fun q => by rw [q]; rfl, fun q => Int32.toInt_inj.mp q⟩
        have z1 : (nI la - nI lb < 0) ↔ (nI la - nI lb).toInt < 0 := i_lt
        rw [z0, z1, e]
        by_cases q : la = lb
        · have c0 := cmpS_eq (A := pd z la a) (B := pd z lb b) (7 - s) s (fun i x y => by
            unfold pd
            rw [if_neg (by omega), if_neg (by omega)])
          rw [c0]
          omega
        · obtain ⟨k, hk⟩ : ∃ k, 7 - s = k + 1 := ⟨6 - s, by omega⟩
          rw [hk]
          unfold cmpS
          by_cases w : la < lb
          · have hs2 := hb s (by omega)
            have eA : pd z la a s = 0 := if_neg (by omega)
            have eB : pd z lb b s = z + b s := if_pos (by omega)
            rw [eA, eB, if_neg (by omega), if_pos (by omega)]
            omega
          · have hs2 := ha s (by omega)
            have eA : pd z la a s = z + a s := if_pos (by omega)
            have eB : pd z lb b s = 0 := if_neg (by omega)
            rw [eA, eB, if_neg (by omega), if_neg (by omega)]
            omega
    | succ m ih =>
      intro s f hs hf
      match f, hf with
      | f + 1, hf =>
        have h1 := ha s (by omega)
        have h2 := hb s (by omega)
        have eA : pd z la a s = z + a s := if_pos (by omega)
        have eB : pd z lb b s = z + b s := if_pos (by omega)
        obtain ⟨k, hk⟩ : ∃ k, 7 - s = k + 1 := ⟨6 - s, by omega⟩
        rw [fX6_compareRuns_L11, if_neg (nI_ge (by omega) (by omega)), nI_add, rdC (show o1 + s < LC p0 by omega), h1.2.2, nI_add, rdC (show o2 + s < LC p3 by omega), h2.2.2, hk]
        unfold cmpS
        rw [eA, eB]
        by_cases q : a s = b s
        · rw [if_pos (show z + a s = z + b s by omega), if_pos (by rw [q]), nI_1, show k = 7 - (s + 1) by omega]
          exact ih (s + 1) f (by omega) (by omega)
        · rw [if_neg (show ¬ z + a s = z + b s by omega), if_neg (fun w => q ((nI_eq (by omega) (by omega)).mp w)), rdC (show o1 + s < LC p0 by omega), h1.2.2, rdC (show o2 + s < LC p3 by omega), h2.2.2]
          by_cases w : a s < b s
          · rw [if_neg (nI_ge w (by omega)), if_pos (show z + a s < z + b s by omega)]
            exact ⟨_, rfl, by decide, by decide⟩
          · rw [if_pos (nI_le (by omega) (by omega)), if_neg (show ¬ z + a s < z + b s by omega)]
            exact ⟨_, rfl, by decide, by decide⟩
  unfold fX6_compareRuns
  have em : (if nI lb < nI la then nI lb else nI la) = nI (min la lb) := by
    by_cases q : lb < la
    · rw [if_pos (nI_lt q (by omega)), Nat.min_eq_right (by omega)]
    · rw [if_neg (nI_nlt (by omega) (by omega)), Nat.min_eq_left (by omega)]
  rw [em, pv_s, L_0]
  exact L (min la lb) 0 10000 (by omega) (by omega)
def encW : Option Nat → Int32
  | none => -9
  | some r => nI r
def ordW (R : Nat → Int32) : Option Nat → Int32
  | none => nI 0
  | some r => R r
def wdF (g : Nat → Int) (b : Option Nat) (c : Nat) : Option Nat := if 0 < g c then b else some c
theorem wdF_lt (g : Nat → Int) : ∀ m r, fo (wdF g) 0 m none = some r → r < m ∧ ¬ 0 < g r
  | 0, _, h => by cases h
  | m + 1, r, h => by
    rw [fo_succ, Nat.zero_add] at h
    unfold wdF at h
    by_cases q : 0 < g m
    · rw [if_pos q] at h
      have := wdF_lt g m r h
      exact ⟨by omega, this.2⟩
    · rw [if_neg q] at h
      cases h
      exact ⟨by omega, q⟩
theorem s_word (τ σ : St) (h : Rel τ σ) (a1 : Int32) : ∃ (τ' σ' : St) (r : Int32), fX10_word τ a1 = some (τ', r) ∧ fX11_word σ a1 = some (σ', r) ∧ Rel τ' σ' := by
  obtain ⟨P, t, hP, hC, hM, ht, tC, tM⟩ := h.view
  have h8 := hP.2.1
  unfold fX10_word fX11_word
  rcases ix_cases a1 6 (by omega) with ⟨r, hr, rfl⟩ | hbad
  case inr =>
    rw [isOne1_no τ hbad, isRow_no σ hbad]
    exact ⟨_, _, _, rfl, rfl, h⟩
  rw [isOne1_yes τ hr, isRow_yes σ hr]
  simp only [cl_s, o10, if_false]
  rcases lacksR h (m := 7) (v := 25) hr (by omega) (by omega) with ⟨τ', σ', l1, l2, l3⟩ | ⟨l1, l2, n, w, n1, n7, c1, m1, hw⟩
  · rw [show fX10_refuseCells τ (nI r) 7 25 = _ from l1, show fX11_lacks σ (nI r) 7 25 = _ from l2, cl_s, cl_s, if_neg (show ¬ (-3 : Int32) = 0 by decide), if_neg (show ¬ (0 : Int32) ≤ -3 by decide)]
    exact ⟨_, _, _, rfl, rfl, l3⟩
  rw [show fX10_refuseCells τ (nI r) 7 25 = _ from l1, show fX11_lacks σ (nI r) 7 25 = _ from l2, cl_s, cl_s, if_pos rfl, if_pos (show (0 : Int32) ≤ 0 by decide)]
  obtain ⟨R, hR⟩ : ∃ R : Nat → Int32, ∀ c, c < pC P → fX6_compareName τ (nI c) (4 + r) (nI n) = some (τ, R c) ∧ (R c = 0 ↔ cmpS (pd 97 (ln P c) (nm P c)) (pd 97 n w) 0 7 = 0) ∧ (R c < 0 ↔ cmpS (pd 97 (ln P c) (nm P c)) (pd 97 n w) 0 7 < 0) := ch (p := fun c v => fX6_compareName τ (nI c) (4 + r) (nI n) = some (τ, v) ∧ (v = 0 ↔ cmpS (pd 97 (ln P c) (nm P c)) (pd 97 n w) 0 7 = 0) ∧ (v < 0 ↔ cmpS (pd 97 (ln P c) (nm P c)) (pd 97 n w) 0 7 < 0)) (fun c hc => by
    obtain ⟨-, -, hl, hn⟩ := hP.2.2.2.2 c hc
    obtain ⟨-, -, d1, d2⟩ := hC.2.2.2 c hc
    obtain ⟨x, x1, x2, x3⟩ := runsC (τ := τ) (p0 := 27) (p3 := 4 + r) (o1 := 7 * c) (o2 := 0) (la := ln P c) (lb := n) (z := 97) (a := nm P c) (b := w) (fun i hi => ⟨by have := hn i hi; omega, by omega, d2 i hi⟩) (fun i hi => ⟨by have := (hw i hi).1; omega, by omega, by rw [Nat.zero_add]; exact (hw i hi).2.1⟩) hl.2 n7 (by show _ ≤ 56; omega) (by rw [LC_row hr]; omega)
    refine ⟨x, ?_, x2, x3⟩
    unfold fX6_compareName
    rw [rdC (show c < LC 28 by show c < 8; omega), d1, L_7, pk_mul, Nat.mul_comm c 7, show fX6_compareRuns τ 27 (nI (7 * c)) (nI (ln P c)) (4 + r) 0 (nI n) = _ from x1, cl_s])
  have LC1 := jloop (fun n σ (a : Int32 × Int32) i k2 => fX10_word_L38 (nI r) n σ a.1 a.2 i (fun σ x y i => k2 σ (x, y) i)) (pC P) (fun i ρ b => ρ = τ ∧ b = (encW (fo (wdF (fun c => cmpS (pd 97 (ln P c) (nm P c)) (pd 97 n w) 0 7)) 0 i none), ordW R (fo (wdF (fun c => cmpS (pd 97 (ln P c) (nm P c)) (pd 97 n w) 0 7)) 0 i none))) (fun σ18 (b : Int32 × Int32) v21 => (if b.1 = (-9) then some (σ18, b.1) else pv (if b.2 = 0 then 1 else 0) (fun (y23 : Int32) => pt (su σ18 0 11 y23) (fun σ24 => some (σ24, b.1))))) (fun n' ρ b hI => by
      obtain ⟨q1, q2⟩ := hI
      rw [q1]
      show fX10_word_L38 (nI r) (n' + 1) τ b.1 b.2 (nI (pC P)) _ = _
      rw [fX10_word_L38, hC.2.1, if_pos (nI_le (by omega) (by omega))]) (fun n' ρ b i hi hI => by
      obtain ⟨q1, q2⟩ := hI
      rw [q1]
      obtain ⟨r1, r2, r3⟩ := hR i hi
      refine ⟨τ, _, ⟨rfl, rfl⟩, ?_⟩
      rw [fo_succ, Nat.zero_add, q2]
      generalize fo (wdF (fun c => cmpS (pd 97 (ln P c) (nm P c)) (pd 97 n w) 0 7)) 0 i none = b0
      show fX10_word_L38 (nI r) (n' + 1) τ (encW b0) (ordW R b0) (nI i) _ = fX10_word_L38 (nI r) n' τ _ _ (nI (i + 1)) _
      rw [fX10_word_L38, hC.2.1, if_neg (nI_ge hi (by omega)), cellsOf1 τ hr, cl_s, sizeOf1 τ hr c1, cl_s, r1, cl_s, jn_s, nI_1]
      unfold wdF
      by_cases q : 0 < cmpS (pd 97 (ln P i) (nm P i)) (pd 97 n w) 0 7
      · have q0 : 0 < R i := by
          rw [i_lt, show (0 : Int32).toInt = 0 from rfl]
          have z0 : ¬ R i = 0 := fun z => by have := r2.mp z; omega
          have z1 : ¬ R i < 0 := fun z => by have := r3.mp z; omega
          rw [i_lt, show (0 : Int32).toInt = 0 from rfl] at z1
          have z2 : ¬ (R i).toInt = 0 := fun z => z0 (Int32.toInt_inj.mp z)
          omega
        rw [if_pos q, if_pos q0]
      · have q0 : ¬ 0 < R i := fun z => by
          rw [i_lt, show (0 : Int32).toInt = 0 from rfl] at z
          have z0 : ¬ cmpS (pd 97 (ln P i) (nm P i)) (pd 97 n w) 0 7 = 0 := fun y => by
            have := r2.mpr y
            rw [this] at z
            exact absurd z (by decide)
          have z1 : ¬ cmpS (pd 97 (ln P i) (nm P i)) (pd 97 n w) 0 7 < 0 := fun y => by
            have := r3.mpr y
            rw [i_lt, show (0 : Int32).toInt = 0 from rfl] at this
            omega
          omega
        rw [if_neg q, if_neg q0]
        rfl) (pC P) 0 10000 τ (-9, nI 0) (by omega) (by omega) ⟨rfl, rfl⟩
  have LM1 := iloop (fun n σ i k => fX11_word_L27 (nI r) n σ i k) 7 (fun i ρ => eqB 21 σ ρ ∧ ∀ k, k < i → ρ.1 21 k = nI (pd 97 n w k)) (fun σ12 v13 => fX11_word_L79 10000 σ12 (-9) 0 (fun σ21 v22 v23 => (if v22 = (-9) then some (σ21, (-9)) else cl (fX11_isAhead σ21 7 (7 * v22) 21 0) (fun σ24 r25 => pv (if r25 = 0 then 1 else 0) (fun (y27 : Int32) => cl (fX11_answer σ24 v22 y27) (fun σ28 r29 => some (σ28, r29))))))) (fun n' ρ hI => by
      show fX11_word_L27 (nI r) (n' + 1) ρ (nI 7) _ = _
      rw [fX11_word_L27, if_pos (show (7 : Int32) ≤ nI 7 from nI_le (a := 7) (by omega) (by omega))]) (fun n' ρ i hi hI => by
      obtain ⟨q1, q2⟩ := hI
      refine ⟨su ρ 21 i (nI (pd 97 n w i)), ⟨q1.trans eqB.w, fun k hk => ?_⟩, ?_⟩
      · rw [su_11]
        by_cases z : k = i
        · rw [if_pos ⟨rfl, z⟩, z]
        · rw [if_neg (fun q => z q.2), q2 k (by omega)]
      · show fX11_word_L27 (nI r) (n' + 1) ρ (nI i) _ = _
        rw [fX11_word_L27, if_neg (show ¬ (7 : Int32) ≤ nI i from nI_ge (b := 7) hi (by omega)), rdM (show r < LM 1 from hr), q1.1 1 (by omega), m1, jn_s, nI_1]
        unfold pd
        by_cases z : i < n
        · rw [if_pos z, if_neg (nI_ge z (by omega)), L_40, pk_mul, nI_add, rdM (show 40 * r + i < LM 2 by show _ < 240; omega), q1.1 2 (by omega), (hw i z).2.2, L_97, nI_add]
          show wr LM ρ 21 (nI i) (nI (w i + 97)) _ = _
          rw [wrM (show i < LM 21 from hi), Nat.add_comm (w i) 97]
        · rw [if_neg z, if_pos (nI_le (by omega) (by omega))]
          show wr LM ρ 21 (nI i) (nI 0) _ = _
          rw [wrM (show i < LM 21 from hi)]) 7 0 10000 σ (by omega) (by omega) ⟨eqB.rf 21 σ, fun k hk => absurd hk (by omega)⟩
  obtain ⟨ρ, ⟨e1, e2⟩, e3⟩ := LM1
  have nmB : ∀ c, c < pC P → ∀ i, i < 7 → pd 97 (ln P c) (nm P c) i < 1000 ∧ ρ.1 7 (7 * c + i) = nI (pd 97 (ln P c) (nm P c) i) := fun c hc i hi => by
    obtain ⟨-, -, hl, hn⟩ := hP.2.2.2.2 c hc
    rw [e1.1 7 (by omega), (hM.2.2.2 c hc).2.2 i hi]
    unfold pd
    by_cases z : i < ln P c
    · have := hn i z
      rw [if_pos z, if_pos z]
      exact ⟨by omega, rfl⟩
    · rw [if_neg z, if_neg z]
      exact ⟨by omega, rfl⟩
  have wB : ∀ i, i < 7 → pd 97 n w i < 1000 ∧ ρ.1 21 (0 + i) = nI (pd 97 n w i) := fun i hi => by
    rw [Nat.zero_add]
    refine ⟨?_, e2 i hi⟩
    unfold pd
    by_cases z : i < n
    · have := (hw i z).1
      rw [if_pos z]
      omega
    · rw [if_neg z]
      omega
  have LM2 := jloop (fun n σ a i k2 => fX11_word_L79 n σ a i (fun σ a i => k2 σ a i)) (pC P) (fun i ρ' b => ρ' = ρ ∧ b = encW (fo (wdF (fun c => cmpS (pd 97 (ln P c) (nm P c)) (pd 97 n w) 0 7)) 0 i none)) (fun σ21 v22 v23 => (if v22 = (-9) then some (σ21, (-9)) else cl (fX11_isAhead σ21 7 (7 * v22) 21 0) (fun σ24 r25 => pv (if r25 = 0 then 1 else 0) (fun (y27 : Int32) => cl (fX11_answer σ24 v22 y27) (fun σ28 r29 => some (σ28, r29)))))) (fun n' ρ' b hI => by
      obtain ⟨q1, q2⟩ := hI
      rw [q1]
      show fX11_word_L79 (n' + 1) ρ b (nI (pC P)) _ = _
      rw [fX11_word_L79, e1.1 0 (by omega), hM.2.1, if_pos (nI_le (by omega) (by omega))]) (fun n' ρ' b i hi hI => by
      obtain ⟨q1, q2⟩ := hI
      rw [q1, q2]
      refine ⟨ρ, _, ⟨rfl, rfl⟩, ?_⟩
      rw [fo_succ, Nat.zero_add]
      generalize fo (wdF (fun c => cmpS (pd 97 (ln P c) (nm P c)) (pd 97 n w) 0 7)) 0 i none = b0
      have A := isAheadM (σ := ρ) (p0 := 21) (p2 := 7) (o1 := 0) (o2 := 7 * i) wB (nmB i hi) (by show _ ≤ 7; omega) (by show _ ≤ 56; omega)
      show fX11_word_L79 (n' + 1) ρ (encW b0) (nI i) _ = fX11_word_L79 n' ρ _ (nI (i + 1)) _
      rw [fX11_word_L79, e1.1 0 (by omega), hM.2.1, if_neg (nI_ge hi (by omega)), L_7, pk_mul, show fX11_isAhead ρ 21 0 7 (nI (7 * i)) = _ from A, cl_s, pv_s, nI_1, cmpS_neg]
      unfold wdF
      by_cases q : 0 < cmpS (pd 97 (ln P i) (nm P i)) (pd 97 n w) 0 7
      · rw [if_pos q, if_pos (show - cmpS (pd 97 (ln P i) (nm P i)) (pd 97 n w) 0 7 < 0 by omega), if_neg (show ¬ (1 : Int32) = 0 by decide)]
      · rw [if_neg q, if_neg (show ¬ - cmpS (pd 97 (ln P i) (nm P i)) (pd 97 n w) 0 7 < 0 by omega), if_pos rfl]
        rfl) (pC P) 0 10000 ρ (-9) (by omega) (by omega) ⟨rfl, rfl⟩
  obtain ⟨ρC, bC, ⟨x1, x2⟩, x3⟩ := LC1
  obtain ⟨ρM, bM, ⟨y1, y2⟩, y3⟩ := LM2
  have lt := wdF_lt (fun c => cmpS (pd 97 (ln P c) (nm P c)) (pd 97 n w) 0 7) (pC P)
  rw [show fX10_word_L38 (nI r) 10000 τ (-9) 0 0 _ = _ from x3, show fX11_word_L27 (nI r) 10000 σ 0 _ = _ from e3, show fX11_word_L79 10000 ρ (-9) 0 _ = _ from y3, x1, x2, y1, y2]
  revert lt
  generalize fo (wdF (fun c => cmpS (pd 97 (ln P c) (nm P c)) (pd 97 n w) 0 7)) 0 (pC P) none = b
  intro lt
  have R1 : Rel τ ρ := h.fr (fun k hk => rfl) rfl (fun k a b c => e1.1 k (by omega)) (fun j _ => by rw [e1.1 0 (by omega)]) e1.2
  cases b with
  | none => exact ⟨_, _, _, rfl, rfl, R1⟩
  | some c =>
    obtain ⟨hc, cc⟩ := lt c rfl
    obtain ⟨r1, r2, r3⟩ := hR c hc
    have A := isAheadM (σ := ρ) (p0 := 7) (p2 := 21) (o1 := 7 * c) (o2 := 0) (nmB c hc) wB (by show _ ≤ 56; omega) (by show _ ≤ 7; omega)
    show ∃ (τ' σ' : St) (r : Int32), (if nI c = (-9) then some (τ, nI c) else pv (if R c = 0 then 1 else 0) (fun (y23 : Int32) => pt (su τ 0 11 y23) (fun σ24 => some (σ24, nI c)))) = some (τ', r) ∧ (if nI c = (-9) then some (ρ, (-9)) else cl (fX11_isAhead ρ 7 (7 * nI c) 21 0) (fun σ24 r25 => pv (if r25 = 0 then 1 else 0) (fun (y27 : Int32) => cl (fX11_answer σ24 (nI c) y27) (fun σ28 r29 => some (σ28, r29))))) = some (σ', r) ∧ Rel τ' σ'
    rw [if_neg (nI_nneg (by omega) (by decide)), if_neg (nI_nneg (by omega) (by decide)), L_7, pk_mul, show fX11_isAhead ρ 7 (nI (7 * c)) 21 0 = _ from A, cl_s]
    simp only [fX11_answer, pv_s, pt_s, cl_s]
    by_cases q : cmpS (pd 97 (ln P c) (nm P c)) (pd 97 n w) 0 7 = 0
    · rw [if_pos (r2.mpr q), if_neg (show ¬ cmpS (pd 97 (ln P c) (nm P c)) (pd 97 n w) 0 7 < 0 by omega), if_pos rfl]
      exact ⟨_, _, _, rfl, rfl, R1.told _⟩
    · rw [if_neg (fun z => q (r2.mp z)), if_pos (show cmpS (pd 97 (ln P c) (nm P c)) (pd 97 n w) 0 7 < 0 by have : ¬ 0 < cmpS (pd 97 (ln P c) (nm P c)) (pd 97 n w) 0 7 := cc; omega), if_neg (show ¬ (1 : Int32) = 0 by decide)]
      exact ⟨_, _, _, rfl, rfl, R1.told _⟩
