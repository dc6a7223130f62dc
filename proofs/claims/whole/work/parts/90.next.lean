/-! steps: next, fades -/
theorem nI_nneg {n : Nat} {z : Int32} (h : n < 2 ^ 31) (hz : z < 0) : ¬ nI n = z := fun q => nI_pos h (by rw [q]; exact hz)
def encS : Option Nat → Int32
  | none => -1
  | some r => nI r
def encN : Option Nat → Int32
  | none => -9
  | some r => nI (10 * (r / 8) + r % 8)
def fFst (t : Tw) (b : Option Nat) (s : Nat) : Option Nat := if t (7 + s) = 0 then b else match b with
  | none => some s
  | some r => if t (7 + r) ≤ t (7 + s) then some r else some s
def fLst (t : Tw) (m : Nat) (b : Option Nat) (s : Nat) : Option Nat := if t (7 + s) = 0 then b else if m < t (7 + s) then b else match b with
  | none => some s
  | some r => if t (7 + s) < t (7 + r) then some r else some s
def fMany (t : Tw) (m : Nat) (a : Int32) (s : Nat) : Int32 := if t (7 + s) = 0 then a else if m < t (7 + s) then a else a + 1
theorem fst_lt (t : Tw) : ∀ m r, fo (fFst t) 0 m none = some r → r < m ∧ t (7 + r) ≠ 0
  | 0, _, h => by cases h
  | m + 1, r, h => by
    rw [fo_succ, Nat.zero_add] at h
    have ih := fst_lt t m
    revert h ih
    generalize fo (fFst t) 0 m none = b
    intro h ih
    unfold fFst at h
    by_cases z : t (7 + m) = 0
    · rw [if_pos z] at h
      have := ih r h
      exact ⟨by omega, this.2⟩
    · rw [if_neg z] at h
      cases b with
      | none =>
        cases h
        exact ⟨by omega, z⟩
      | some q =>
        have w := ih q rfl
        simp only at h
        split at h
        · cases h
          exact ⟨by omega, w.2⟩
        · cases h
          exact ⟨by omega, z⟩
theorem lst_lt (t : Tw) (k : Nat) : ∀ m r, fo (fLst t k) 0 m none = some r → r < m ∧ t (7 + r) ≠ 0
  | 0, _, h => by cases h
  | m + 1, r, h => by
    rw [fo_succ, Nat.zero_add] at h
    have ih := lst_lt t k m
    revert h ih
    generalize fo (fLst t k) 0 m none = b
    intro h ih
    unfold fLst at h
    by_cases z : t (7 + m) = 0
    · rw [if_pos z] at h
      have := ih r h
      exact ⟨by omega, this.2⟩
    · rw [if_neg z] at h
      by_cases z2 : k < t (7 + m)
      · rw [if_pos z2] at h
        have := ih r h
        exact ⟨by omega, this.2⟩
      · rw [if_neg z2] at h
        cases b with
        | none =>
          cases h
          exact ⟨by omega, z⟩
        | some q =>
          have w := ih q rfl
          simp only at h
          split at h
          · cases h
            exact ⟨by omega, w.2⟩
          · cases h
            exact ⟨by omega, z⟩
theorem endLe' {P : Pl} {t : Tw} (ht : TwOk P t) {s : Nat} (hs : s < 48) : t (7 + s) ≤ 110 := by
  have e := endLe ht (h := s / 8) (c := s % 8) (by omega) (by omega)
  rw [show 7 + 8 * (s / 8) + s % 8 = 7 + s by omega] at e
  exact e
theorem firstC {τ : St} {P : Pl} {t : Tw} (ht : TwOk P t) (tC : TwC τ P t) : fX5_first τ = some (τ, encS (fo (fFst t) 0 48 none)) := by
  unfold fX5_first
  rw [L_0]
  refine Exists.elim (jloop (fun n σ a i k2 => fX5_first_L4 n σ a i (fun σ a i => k2 σ a i)) 48 (fun i ρ b => ρ = τ ∧ b = encS (fo (fFst t) 0 i none)) (fun σ9 v10 v11 => some (σ9, v10)) (fun n ρ b hI => ?_) (fun n ρ b i hi hI => ?_) 48 0 10000 τ (-1) (by omega) (by omega) ⟨rfl, rfl⟩) (fun ρ hx => Exists.elim hx (fun b hy => ?_))
  · rw [fX5_first_L4, LCv_34, if_pos (nI_le (by omega) (by omega))]
  · obtain ⟨rfl, rfl⟩ := hI
    have lt := fst_lt t i
    have e := endLe' ht hi
    refine ⟨ρ, encS (fFst t (fo (fFst t) 0 i none) i), ⟨rfl, by rw [fo_succ, Nat.zero_add]⟩, ?_⟩
    revert lt
    generalize fo (fFst t) 0 i none = b
    intro lt
    show fX5_first_L4 (n + 1) ρ (encS b) (nI i) (fun σ9 v10 v11 => some (σ9, v10)) = _
    rw [fX5_first_L4, LCv_34, if_neg (nI_ge hi (by omega)), rdC (show i < LC 34 by show i < 48; omega), tC.2.2 i hi, jn_s, nI_1]
    unfold fFst
    by_cases z : t (7 + i) = 0
    · rw [if_pos z, if_pos (by rw [z]; rfl)]
    · rw [if_neg z, if_neg (nI_ne0 (by omega) (by omega)), jn_s]
      cases b with
      | none =>
        rw [show encS none = -1 from rfl, if_pos (by decide)]
        rfl
      | some r =>
        have w := (lt r rfl).1
        have e2 := endLe' ht (show r < 48 by omega)
        rw [show encS (some r) = nI r from rfl, if_neg (nlt0 (by omega)), rdC (show r < LC 34 by show r < 48; omega), tC.2.2 r (by omega)]
        simp only
        by_cases q : t (7 + r) ≤ t (7 + i)
        · rw [if_pos q, if_pos (nI_le q (by omega))]
          rfl
        · rw [if_neg q, if_neg (nI_ge (by omega) (by omega))]
          rfl
  · obtain ⟨⟨q1, q2⟩, e⟩ := hy
    rw [q1, q2] at e
    exact e
theorem lastC {τ : St} {P : Pl} {t : Tw} (ht : TwOk P t) (tC : TwC τ P t) {m : Nat} (hm : m < 1000) : fX5_lastBy τ (nI m) = some (τ, encS (fo (fLst t m) 0 48 none)) := by
  unfold fX5_lastBy
  rw [L_0]
  refine Exists.elim (jloop (fun n σ a i k2 => fX5_lastBy_L4 (nI m) n σ a i (fun σ a i => k2 σ a i)) 48 (fun i ρ b => ρ = τ ∧ b = encS (fo (fLst t m) 0 i none)) (fun σ9 v10 v11 => some (σ9, v10)) (fun n ρ b hI => ?_) (fun n ρ b i hi hI => ?_) 48 0 10000 τ (-1) (by omega) (by omega) ⟨rfl, rfl⟩) (fun ρ hx => Exists.elim hx (fun b hy => ?_))
  · rw [fX5_lastBy_L4, LCv_34, if_pos (nI_le (by omega) (by omega))]
  · obtain ⟨rfl, rfl⟩ := hI
    have lt := lst_lt t m i
    have e := endLe' ht hi
    refine ⟨ρ, encS (fLst t m (fo (fLst t m) 0 i none) i), ⟨rfl, by rw [fo_succ, Nat.zero_add]⟩, ?_⟩
    revert lt
    generalize fo (fLst t m) 0 i none = b
    intro lt
    show fX5_lastBy_L4 (nI m) (n + 1) ρ (encS b) (nI i) (fun σ9 v10 v11 => some (σ9, v10)) = _
    rw [fX5_lastBy_L4, LCv_34, if_neg (nI_ge hi (by omega)), rdC (show i < LC 34 by show i < 48; omega), tC.2.2 i hi, jn_s, nI_1]
    unfold fLst
    by_cases z : t (7 + i) = 0
    · rw [if_pos z, if_pos (by rw [z]; rfl)]
    · rw [if_neg z, if_neg (nI_ne0 (by omega) (by omega)), jn_s]
      by_cases z2 : m < t (7 + i)
      · rw [if_pos z2, if_pos (nI_lt z2 (by omega))]
      · rw [if_neg z2, if_neg (nI_nlt (by omega) (by omega))]
        cases b with
        | none =>
          rw [show encS none = -1 from rfl, if_pos (by decide)]
          rfl
        | some r =>
          have w := (lt r rfl).1
          have e2 := endLe' ht (show r < 48 by omega)
          rw [show encS (some r) = nI r from rfl, if_neg (nlt0 (by omega)), rdC (show r < LC 34 by show r < 48; omega), tC.2.2 r (by omega)]
          simp only
          by_cases q : t (7 + i) < t (7 + r)
          · rw [if_pos q, if_pos (nI_lt q (by omega))]
            rfl
          · rw [if_neg q, if_neg (nI_nlt (by omega) (by omega))]
            rfl
  · obtain ⟨⟨q1, q2⟩, e⟩ := hy
    rw [q1, q2] at e
    exact e
theorem manyByC {τ : St} {P : Pl} {t : Tw} (ht : TwOk P t) (tC : TwC τ P t) {m : Nat} (hm : m < 1000) : fX5_manyBy τ (nI m) = some (τ, fo (fMany t m) 0 48 0) := by
  unfold fX5_manyBy
  rw [show (0 : Int32) = nI 0 from rfl, aloop (fun n σ a i k => fX5_manyBy_L4 (nI m) n σ a i (fun σ a i => k σ a i)) 48 τ (fMany t m) (fun n a i k hi => ?_) 48 0 10000 (nI 0) _ (by omega) (by omega)]
  rw [fX5_manyBy_L4, LCv_34]
  by_cases q : 48 ≤ i
  · rw [if_pos q, if_pos (nI_le q (by omega))]
  · have e := endLe' ht (show i < 48 by omega)
    rw [if_neg q, if_neg (nI_ge (by omega) (by omega)), rdC (show i < LC 34 by show i < 48; omega), tC.2.2 i (by omega), jn_s, rdC (show i < LC 34 by show i < 48; omega), tC.2.2 i (by omega), nI_1]
    unfold fMany
    by_cases z : t (7 + i) = 0
    · rw [if_pos z, if_pos (by rw [z]; rfl)]
    · rw [if_neg z, if_neg (nI_ne0 (by omega) (by omega))]
      by_cases z2 : m < t (7 + i)
      · rw [if_pos z2, if_pos (nI_lt z2 (by omega))]
      · rw [if_neg z2, if_neg (nI_nlt (by omega) (by omega))]
/-- the reference -/
def gFst (t : Tw) (a : Int32 × Int32) (s : Nat) : Int32 × Int32 := if t (7 + s) = 0 then a else if a.2 ≤ nI (t (7 + s)) then a else (nI (10 * (s / 8) + s % 8), nI (t (7 + s)))
def endE (t : Tw) : Option Nat → Int32
  | none => nI 999
  | some r => nI (t (7 + r))
def endZ (t : Tw) : Option Nat → Int32
  | none => nI 0
  | some r => nI (t (7 + r))
theorem gFst_eq {P : Pl} {t : Tw} (ht : TwOk P t) : ∀ m, m ≤ 48 → fo (gFst t) 0 m (-9, nI 999) = (encN (fo (fFst t) 0 m none), endE t (fo (fFst t) 0 m none))
  | 0, _ => rfl
  | m + 1, hm => by
    rw [fo_succ, fo_succ, gFst_eq ht m (by omega), Nat.zero_add]
    have lt := fst_lt t m
    revert lt
    generalize fo (fFst t) 0 m none = b
    intro lt
    have e := endLe' ht (show m < 48 by omega)
    unfold gFst fFst
    by_cases z : t (7 + m) = 0
    · rw [if_pos z, if_pos z]
    · rw [if_neg z, if_neg z]
      cases b with
      | none =>
        rw [if_neg (show ¬ (encN none, endE t none).2 ≤ nI (t (7 + m)) from nI_ge (by omega) (by omega))]
        rfl
      | some r =>
        have w := (lt r rfl).1
        have e2 := endLe' ht (show r < 48 by omega)
        simp only
        by_cases q : t (7 + r) ≤ t (7 + m)
        · rw [if_pos q, if_pos (show endE t (some r) ≤ nI (t (7 + m)) from nI_le q (by omega))]
        · rw [if_neg q, if_neg (show ¬ endE t (some r) ≤ nI (t (7 + m)) from nI_ge (by omega) (by omega))]
          rfl
theorem nextInM {σ : St} {P : Pl} {t : Tw} (hP : PlanOk P) (hM : PlM σ P) (ht : TwOk P t) (tM : TwM (σ.1 10) t) {h : Nat} (hh : h < 6) (a : Int32 × Int32) (k : St → Int32 → Int32 → Int32 → Option (St × Int32)) : fX11_next_L20 (nI h) 10000 σ a.1 a.2 0 k = k σ (fo (fun a c => gFst t a (8 * h + c)) 0 (pC P) a).1 (fo (fun a c => gFst t a (8 * h + c)) 0 (pC P) a).2 (nI (pC P)) := by
  have h8 := hP.2.1
  rw [L_0]
  exact aloop (fun n σ (a : Int32 × Int32) i k => fX11_next_L20 (nI h) n σ a.1 a.2 i (fun σ x y i => k σ (x, y) i)) (pC P) σ (fun a c => gFst t a (8 * h + c)) (fun n a i k hi => by
    rw [fX11_next_L20, hM.2.1]
    by_cases q : pC P ≤ i
    · rw [if_pos q, if_pos (nI_le q (by omega))]
    · have e := endLe ht hh (show i < 8 by omega)
      rw [if_neg q, if_neg (nI_ge (by omega) (by omega)), ownsM ht rfl tM hh (by omega), cl_s, jn_s, nI_1, L_8, L_7, L_10, pk_mul, nI_add, nI_add, rdM (show 7 + 8 * h + i < LM 10 by show _ < 55; omega), tM _ (by omega), rdM (show 7 + 8 * h + i < LM 10 by show _ < 55; omega), tM _ (by omega), pk_mul, nI_add]
      unfold gFst
      rw [show 7 + (8 * h + i) = 7 + 8 * h + i by omega, show (8 * h + i) / 8 = h by omega, show (8 * h + i) % 8 = i by omega]
      simp only [ow0]
      by_cases z : t (7 + 8 * h + i) = 0
      · rw [if_pos z, if_pos z]
      · rw [if_neg z, if_neg z]
        by_cases z2 : a.2 ≤ nI (t (7 + 8 * h + i))
        · rw [if_pos z2, if_pos z2]
        · rw [if_neg z2, if_neg z2]) (pC P) 0 10000 a (fun σ p i => k σ p.1 p.2 i) (by omega) (by omega)
theorem s_next (τ σ : St) (h : Rel τ σ) : ∃ (τ' σ' : St) (r : Int32), fX10_next τ = some (τ', r) ∧ fX11_next σ = some (σ', r) ∧ Rel τ' σ' := by
  obtain ⟨P, t, hP, hC, hM, ht, tC, tM⟩ := h.view
  have h6 := hP.1
  have h8 := hP.2.1
  unfold fX10_next fX11_next
  rw [firstC ht tC, cl_s]
  have eM : fX11_next_L9 10000 σ (-9) 999 0 (fun σ20 v21 v22 v23 => (if v21 = (-9) then some (σ20, (-9)) else cl (fX11_answer σ20 v21 v22) (fun σ24 r25 => some (σ24, r25)))) = (fun (a : Int32 × Int32) => if a.1 = (-9) then some (σ, (-9)) else cl (fX11_answer σ a.1 a.2) (fun σ24 r25 => some (σ24, r25))) (fo (fun a h => fo (fun a c => gFst t a (8 * h + c)) 0 (pC P) a) 0 (pH P) (-9, nI 999)) := by
    rw [L_0]
    exact aloop (fun n σ (a : Int32 × Int32) i k => fX11_next_L9 n σ a.1 a.2 i (fun σ x y i => k σ (x, y) i)) (pH P) σ (fun a h => fo (fun a c => gFst t a (8 * h + c)) 0 (pC P) a) (fun n a i k hi => by
      rw [fX11_next_L9, hM.1]
      by_cases q : pH P ≤ i
      · rw [if_pos q, if_pos (nI_le q (by omega))]
      · rw [if_neg q, if_neg (nI_ge (by omega) (by omega)), nextInM hP hM ht tM (show i < 6 by omega), nI_1]) (pH P) 0 10000 (-9, nI 999) (fun σ p i => if p.1 = (-9) then some (σ, (-9)) else cl (fX11_answer σ p.1 p.2) (fun σ24 r25 => some (σ24, r25))) (by omega) (by omega)
  rw [eM, ← fo_flat (gFst t) h6 h8 (-9, nI 999) (fun a s hs n => by unfold gFst; rw [if_pos (ht.w.out hs n)]), gFst_eq ht 48 (by omega)]
  have lt := fst_lt t 48
  revert lt
  generalize fo (fFst t) 0 48 none = b
  intro lt
  cases b with
  | none =>
    rw [show encS none = -1 from rfl, if_neg (show ¬ (0 : Int32) ≤ -1 by decide)]
    exact ⟨_, _, _, rfl, rfl, h⟩
  | some r =>
    have w := (lt r rfl).1
    have e := endLe' ht w
    rw [show encS (some r) = nI r from rfl, if_pos (nle0 (by omega)), rdC (show r < LC 34 from w), tC.2.2 r w, pt_s]
    unfold fX5_named fX11_answer
    simp only
    rw [if_neg (show ¬ encN (some r) = -9 from nI_nneg (n := 10 * (r / 8) + r % 8) (by omega) (show (-9 : Int32) < 0 by decide))]
    rw [cl_s, pt_s, cl_s, L_8, L_10, pk_rem (by omega) (by omega) (by omega), pk_div (by omega) (by omega) (by omega), pk_mul, nI_add, show r / 8 * 10 + r % 8 = 10 * (r / 8) + r % 8 by omega]
    exact ⟨_, _, _, rfl, rfl, h.told _⟩
def gLst (t : Tw) (m : Nat) (a : Int32 × Int32 × Int32) (s : Nat) : Int32 × Int32 × Int32 := if t (7 + s) = 0 then a else if m < t (7 + s) then a else (a.1 + 1, if nI (t (7 + s)) < a.2.2 then a.2.1 else nI (10 * (s / 8) + s % 8), if nI (t (7 + s)) < a.2.2 then a.2.2 else nI (t (7 + s)))
theorem gLst_eq {P : Pl} {t : Tw} (ht : TwOk P t) (k : Nat) : ∀ m, m ≤ 48 → fo (gLst t k) 0 m (nI 0, -9, nI 0) = (fo (fMany t k) 0 m (nI 0), encN (fo (fLst t k) 0 m none), endZ t (fo (fLst t k) 0 m none))
  | 0, _ => rfl
  | m + 1, hm => by
    rw [fo_succ, fo_succ, fo_succ, gLst_eq ht k m (by omega), Nat.zero_add]
    have lt := lst_lt t k m
    revert lt
    generalize fo (fLst t k) 0 m none = b
    generalize fo (fMany t k) 0 m (nI 0) = a
    intro lt
    have e := endLe' ht (show m < 48 by omega)
    unfold gLst fLst fMany
    by_cases z : t (7 + m) = 0
    · rw [if_pos z, if_pos z, if_pos z]
    · rw [if_neg z, if_neg z, if_neg z]
      by_cases z2 : k < t (7 + m)
      · rw [if_pos z2, if_pos z2, if_pos z2]
      · rw [if_neg z2, if_neg z2, if_neg z2]
        cases b with
        | none =>
          simp only
          rw [if_neg (show ¬ nI (t (7 + m)) < endZ t none from nI_nlt (by omega) (by omega)), if_neg (show ¬ nI (t (7 + m)) < endZ t none from nI_nlt (by omega) (by omega))]
          rfl
        | some r =>
          have w := (lt r rfl).1
          have e2 := endLe' ht (show r < 48 by omega)
          simp only
          by_cases q : t (7 + m) < t (7 + r)
          · rw [if_pos q, if_pos (show nI (t (7 + m)) < endZ t (some r) from nI_lt q (by omega)), if_pos (show nI (t (7 + m)) < endZ t (some r) from nI_lt q (by omega))]
          · rw [if_neg q, if_neg (show ¬ nI (t (7 + m)) < endZ t (some r) from nI_nlt (by omega) (by omega)), if_neg (show ¬ nI (t (7 + m)) < endZ t (some r) from nI_nlt (by omega) (by omega))]
            rfl
theorem fadeInM {σ : St} {P : Pl} {t : Tw} (hP : PlanOk P) (hM : PlM σ P) (ht : TwOk P t) (tM : TwM (σ.1 10) t) {h p : Nat} (hh : h < 6) (hp : p ≤ 60) (a : Int32 × Int32 × Int32) (k : St → Int32 → Int32 → Int32 → Int32 → Option (St × Int32)) : fX11_fades_L37 (nI p) (nI h) 10000 σ a.1 a.2.1 a.2.2 0 k = (fun b => k σ b.1 b.2.1 b.2.2 (nI (pC P))) (fo (fun a c => gLst t (t 0 + p) a (8 * h + c)) 0 (pC P) a) := by
  have h8 := hP.2.1
  have t99 := ht.1
  rw [L_0]
  exact aloop (fun n σ (a : Int32 × Int32 × Int32) i k => fX11_fades_L37 (nI p) (nI h) n σ a.1 a.2.1 a.2.2 i (fun σ x y z i => k σ (x, y, z) i)) (pC P) σ (fun a c => gLst t (t 0 + p) a (8 * h + c)) (fun n a i k hi => by
    rw [fX11_fades_L37, hM.2.1]
    by_cases q : pC P ≤ i
    · rw [if_pos q, if_pos (nI_le q (by omega))]
    · have e := endLe ht hh (show i < 8 by omega)
      rw [if_neg q, if_neg (nI_ge (by omega) (by omega)), nI_1, L_8, L_7, L_10, pk_mul, nI_add, nI_add, rdM (show 7 + 8 * h + i < LM 10 by show _ < 55; omega), tM _ (by omega), jn_s, L_0, rdM (show 0 < LM 10 by decide), tM 0 (by omega), pk_mul, nI_add, nI_add]
      simp only [pv_s]
      unfold gLst
      rw [show 7 + (8 * h + i) = 7 + 8 * h + i by omega, show (8 * h + i) / 8 = h by omega, show (8 * h + i) % 8 = i by omega]
      by_cases z : t (7 + 8 * h + i) = 0
      · rw [if_pos z, if_pos (by rw [z]; decide)]
      · rw [if_neg z, if_neg (nI_ge (by omega) (by omega))]
        by_cases z2 : t 0 + p < t (7 + 8 * h + i)
        · rw [if_pos z2, if_pos (nI_lt z2 (by omega))]
        · rw [if_neg z2, if_neg (nI_nlt (by omega) (by omega))]) (pC P) 0 10000 a (fun σ b i => k σ b.1 b.2.1 b.2.2 i) (by omega) (by omega)
theorem s_fades (τ σ : St) (h : Rel τ σ) (a1 : Int32) : ∃ (τ' σ' : St) (r : Int32), fX10_fades τ a1 = some (τ', r) ∧ fX11_fades σ a1 = some (σ', r) ∧ Rel τ' σ' := by
  obtain ⟨P, t, hP, hC, hM, ht, tC, tM⟩ := h.view
  have h6 := hP.1
  have h8 := hP.2.1
  have t99 := ht.1
  unfold fX10_fades fX11_fades
  by_cases hr : ((0 : Nat) : Int) ≤ a1.toInt ∧ a1.toInt ≤ (60 : Nat)
  case neg =>
    rw [show fX11_in σ a1.toInt64 0 60 = some (σ, nI 0) from in_out σ (a := 0) (n := 60) (by omega) (by omega) hr, cl_s, if_pos (show nI 0 = (0 : Int32) from rfl)]
    by_cases w : a1 < 0
    · rw [if_pos w]
      exact ⟨_, _, _, rfl, rfl, h⟩
    · rw [if_neg w, if_neg (fun q => hr (by rw [i_lt] at w; rw [i_le] at q; have e1 : (0 : Int32).toInt = 0 := rfl; have e9 : (60 : Int32).toInt = 60 := rfl; omega))]
      exact ⟨_, _, _, rfl, rfl, h⟩
  obtain ⟨p, _, p60, rfl⟩ := between hr (by omega)
  rw [show fX11_in σ (nI p).toInt64 0 60 = _ from in_yes σ (n := 60) p60 (by omega), cl_s, if_neg (show ¬ (1 : Int32) = 0 by decide), if_neg (nlt0 (by omega)), if_pos (show nI p ≤ (60 : Int32) from nI_le (b := 60) p60 (by omega)), tC.1, nI_add, lastC ht tC (by omega), cl_s, jn_s]
  have eM : fX11_fades_L25 (nI p) 10000 σ 0 (-9) 0 0 (fun σ28 v29 v30 v31 v32 => cl (fX11_answer σ28 v29 v30) (fun σ33 r34 => some (σ33, r34))) = (fun (a : Int32 × Int32 × Int32) => cl (fX11_answer σ a.1 a.2.1) (fun σ33 r34 => some (σ33, r34))) (fo (fun a h => fo (fun a c => gLst t (t 0 + p) a (8 * h + c)) 0 (pC P) a) 0 (pH P) (nI 0, -9, nI 0)) := by
    rw [L_0]
    exact aloop (fun n σ (a : Int32 × Int32 × Int32) i k => fX11_fades_L25 (nI p) n σ a.1 a.2.1 a.2.2 i (fun σ x y z i => k σ (x, y, z) i)) (pH P) σ (fun a h => fo (fun a c => gLst t (t 0 + p) a (8 * h + c)) 0 (pC P) a) (fun n a i k hi => by
      rw [fX11_fades_L25, hM.1]
      by_cases q : pH P ≤ i
      · rw [if_pos q, if_pos (nI_le q (by omega))]
      · rw [if_neg q, if_neg (nI_ge (by omega) (by omega)), fadeInM hP hM ht tM (show i < 6 by omega) p60, nI_1]) (pH P) 0 10000 (nI 0, -9, nI 0) (fun σ a i => cl (fX11_answer σ a.1 a.2.1) (fun σ33 r34 => some (σ33, r34))) (by omega) (by omega)
  rw [eM, ← fo_flat (gLst t (t 0 + p)) h6 h8 (nI 0, -9, nI 0) (fun a s hs n => by unfold gLst; rw [if_pos (ht.w.out hs n)]), gLst_eq ht (t 0 + p) 48 (by omega)]
  have lt := lst_lt t (t 0 + p) 48
  revert lt
  generalize fo (fLst t (t 0 + p)) 0 48 none = b
  intro lt
  have fin : ∀ v : Int32, pt (su τ 0 11 v) (fun σ6 => cl (fX5_manyBy σ6 ((σ6.1 25 3) + nI p)) (fun σ7 r8 => some (σ7, r8))) = some (su τ 0 11 v, fo (fMany t (t 0 + p)) 0 48 (nI 0)) := fun v => by
    rw [pt_s, show (su τ 0 11 v).1 25 3 = nI (t 0) from tC.1, nI_add, manyByC (P := P) (t := t) (τ := su τ 0 11 v) ht tC (by omega)]
    rfl
  cases b with
  | none =>
    rw [show encS none = -1 from rfl, if_neg (show ¬ (0 : Int32) ≤ -1 by decide), show (fun (σ4 : St) (y5 : Int32) => pt (su σ4 0 11 y5) (fun σ6 => cl (fX5_manyBy σ6 ((σ6.1 25 3) + nI p)) (fun σ7 r8 => some (σ7, r8)))) τ (-9) = _ from fin (-9)]
    exact ⟨_, _, _, rfl, rfl, h.told _⟩
  | some r =>
    have w := (lt r rfl).1
    rw [show encS (some r) = nI r from rfl, if_pos (nle0 (by omega))]
    unfold fX5_named
    rw [cl_s, L_8, L_10, pk_rem (by omega) (by omega) (by omega), pk_div (by omega) (by omega) (by omega), pk_mul, nI_add, show r / 8 * 10 + r % 8 = 10 * (r / 8) + r % 8 by omega, show (fun (σ4 : St) (y5 : Int32) => pt (su σ4 0 11 y5) (fun σ6 => cl (fX5_manyBy σ6 ((σ6.1 25 3) + nI p)) (fun σ7 r8 => some (σ7, r8)))) τ (nI (10 * (r / 8) + r % 8)) = _ from fin _]
    exact ⟨_, _, _, rfl, rfl, h.told _⟩
