/-! deeds done: the reference -/
theorem fo_succ {α : Type} (f : α → Nat → α) : ∀ (m i : Nat) (a : α), fo f i (m + 1) a = f (fo f i m a) (i + m)
  | 0, _, _ => rfl
  | m + 1, i, a => by
    show fo f (i + 1) (m + 1) (f a i) = f (fo f (i + 1) m (f a i)) (i + (m + 1))
    rw [fo_succ f m (i + 1) (f a i), show i + 1 + m = i + (m + 1) by omega]
theorem fo_add {α : Type} (f : α → Nat → α) (m i : Nat) (a : α) : ∀ n, fo f i (m + n) a = fo f (i + m) n (fo f i m a)
  | 0 => rfl
  | n + 1 => by rw [← Nat.add_assoc, fo_succ, fo_succ, fo_add f m i a n, Nat.add_assoc]
theorem fo_id {α : Type} (f : α → Nat → α) : ∀ (m i : Nat) (a : α), (∀ a j, i ≤ j → j < i + m → f a j = a) → fo f i m a = a
  | 0, _, _, _ => rfl
  | m + 1, i, a, h => by
    rw [fo_succ, fo_id f m i a (fun a j x y => h a j x (by omega)), h _ _ (by omega) (by omega)]
theorem fo_nest {α : Type} (f : α → Nat → α) (C : Nat) (hC : C ≤ 8) (a : α) : ∀ H, (∀ a s, s < 8 * H → C ≤ s % 8 → f a s = a) → fo f 0 (8 * H) a = fo (fun a h => fo (fun a c => f a (8 * h + c)) 0 C a) 0 H a
  | 0, _ => rfl
  | H + 1, h => by
    rw [fo_succ, ← fo_nest f C hC a H (fun a s x y => h a s (by omega) y), show 8 * (H + 1) = 8 * H + (C + (8 - C)) by omega, fo_add, fo_add, Nat.zero_add, Nat.zero_add]
    rw [fo_id f (8 - C) (8 * H + C) _ (fun a j x y => h a j (by omega) (by omega))]
    rw [fo_shift (f := fun a c => f a (8 * H + c)) (g := f) (8 * H) (fun a j => by rw [Nat.add_comm]) C 0, Nat.zero_add]
theorem fo_flat {α : Type} (f : α → Nat → α) {H C : Nat} (hH : H ≤ 6) (hC : C ≤ 8) (a : α) (h : ∀ a s, s < 48 → ¬ (s / 8 < H ∧ s % 8 < C) → f a s = a) : fo f 0 48 a = fo (fun a h => fo (fun a c => f a (8 * h + c)) 0 C a) 0 H a := by
  rw [show 48 = 8 * H + (48 - 8 * H) by omega, fo_add, Nat.zero_add, fo_id f (48 - 8 * H) (8 * H) _ (fun a j x y => h a j (by omega) (by omega)), fo_nest f C hC a H (fun a s x y => h a s (by omega) (by omega))]
theorem jloop {α β : Type} (Lp : Nat → St → α → Int32 → (St → α → Int32 → Option β) → Option β) (e : Nat) (I : Nat → St → α → Prop) (k : St → α → Int32 → Option β) (hend : ∀ n σ a, I e σ a → Lp (n + 1) σ a (nI e) k = k σ a (nI e)) (hstep : ∀ n σ a i, i < e → I i σ a → ∃ σ' a', I (i + 1) σ' a' ∧ Lp (n + 1) σ a (nI i) k = Lp n σ' a' (nI (i + 1)) k) : ∀ (m i fuel : Nat) (σ : St) (a : α), i + m = e → m < fuel → I i σ a → ∃ σ' a', I e σ' a' ∧ Lp fuel σ a (nI i) k = k σ' a' (nI e) := by
  intro m
  induction m with
  | zero =>
    intro i fuel σ a hi hf h
    match fuel, hf with
    | f + 1, _ =>
      rw [show i = e by omega] at h ⊢
      exact ⟨σ, a, h, hend f σ a h⟩
  | succ m ih =>
    intro i fuel σ a hi hf h
    match fuel, hf with
    | f + 1, hf =>
      obtain ⟨σ', a', h1, h2⟩ := hstep f σ a i (by omega) h
      rw [h2]
      exact ih (i + 1) f σ' a' (by omega) (by omega) h1
/-- all but a cell stays -/
def eqB (k : Nat) (σ σ' : St) : Prop := (∀ c, c ≠ k → σ'.1 c = σ.1 c) ∧ σ'.2 = σ.2
theorem eqB.rf (k : Nat) (σ : St) : eqB k σ σ := ⟨fun _ _ => rfl, rfl⟩
theorem eqB.trans {k : Nat} {a b c : St} (h : eqB k a b) (g : eqB k b c) : eqB k a c := ⟨fun q x => (g.1 q x).trans (h.1 q x), g.2.trans h.2⟩
theorem eqB.w {k i : Nat} {σ : St} {v : Int32} : eqB k σ (su σ k i v) := ⟨fun _ a => su_o a, rfl⟩
theorem eqB.plan {k : Nat} {σ σ' : St} (h : eqB k σ σ') (hk : k = 10 ∨ k = 11) {P : Pl} (hM : PlM σ P) : PlM σ' P := by
  unfold PlM
  rw [h.1 0 (by omega), h.1 5 (by omega), h.1 6 (by omega), h.1 7 (by omega), h.1 8 (by omega), h.1 9 (by omega)]
  exact hM
def TwW (P : Pl) (t : Tw) : Prop := (∀ j, j < 55 → t j < 100000) ∧ (∀ h, h < pH P → t (1 + h) ≤ 99) ∧ ∀ h c, h < 6 → c < 8 → ¬ (h < pH P ∧ c < pC P) → t (7 + 8 * h + c) = 0
theorem TwOk.w {P : Pl} {t : Tw} (h : TwOk P t) : TwW P t := by
  refine ⟨fun j hj => ?_, h.2.1, fun x c hx hc n => ?_⟩
  · by_cases a : j = 0
    · rw [a]; have := h.1; omega
    · by_cases b : j < 7
      · by_cases c : j - 1 < pH P
        · have := h.2.1 (j - 1) c
          rw [show 1 + (j - 1) = j by omega] at this
          omega
        · have := h.2.2.1 (j - 1) (by omega) (by omega)
          rw [show 1 + (j - 1) = j by omega] at this
          omega
      · have e := endLe h (h := (j - 7) / 8) (c := (j - 7) % 8) (by omega) (by omega)
        rw [show 7 + 8 * ((j - 7) / 8) + (j - 7) % 8 = j by omega] at e
        omega
  · apply Classical.byContradiction
    intro q
    have := h.2.2.2 x c hx hc q
    exact n ⟨this.1, this.2.1⟩
theorem TwW.out {P : Pl} {t : Tw} (h : TwW P t) {s : Nat} (hs : s < 48) (n : ¬ (s / 8 < pH P ∧ s % 8 < pC P)) : t (7 + s) = 0 := by
  have := h.2.2 (s / 8) (s % 8) (by omega) (by omega) n
  rw [show 7 + 8 * (s / 8) + s % 8 = 7 + s by omega] at this
  exact this
/-- a month goes by, with told incomes -/
def monthN (P : Pl) (inc : Nat → Nat) (t : Tw) : Tw := fun j => if j = 0 then t 0 + 1 else if j < 7 then (if j < 1 + pH P then nxt (kd P (j - 1)) (inc (j - 1)) (t j) else t j) else if t j ≤ t 0 + 1 then 0 else t j
def mdT (P : Pl) (inc : Nat → Nat) (t : Tw) (h i : Nat) : Tw := fun q => if q = 0 then t 0 + 1 else if q < 7 then (if q < 1 + h then nxt (kd P (q - 1)) (inc (q - 1)) (t q) else t q) else if q < 7 + 8 * h + i ∧ t q ≤ t 0 + 1 then 0 else t q
def fFade (t : Tw) (a : Int32) (s : Nat) : Int32 := if t (7 + s) = 0 then a else if t 0 + 1 < t (7 + s) then a else a + 1
theorem passInM {σ : St} {P : Pl} {t : Tw} {inc : Nat → Nat} {k h : Nat} {w a : Int32} (hP : PlanOk P) (hk : k = 10 ∨ k = 11) (h7 : σ.1 0 7 = nI (pC P)) (hh : h < 6) (ht : TwW P t) (hσ : ∀ q, q < 55 → σ.1 k q = nI (mdT P inc t h 0 q)) (kk : St → Int32 → Int32 → Option (St × Int32)) : ∃ ρ, eqB k σ ρ ∧ (∀ q, q < 55 → ρ.1 k q = nI (mdT P inc t h (pC P) q)) ∧ fX11_passes_L24 k w (nI h) 10000 σ a 0 kk = kk ρ (fo (fun a c => fFade t a (8 * h + c)) 0 (pC P) a) (nI (pC P)) := by
  have h8 := hP.2.1
  have hLk : LM k = 55 := by rcases hk with rfl | rfl <;> rfl
  rw [L_0]
  refine Exists.elim (jloop (fun n σ a i k2 => fX11_passes_L24 k w (nI h) n σ a i (fun σ a i => k2 σ a i)) (pC P) (fun i ρ b => eqB k σ ρ ∧ (∀ q, q < 55 → ρ.1 k q = nI (mdT P inc t h i q)) ∧ b = fo (fun a c => fFade t a (8 * h + c)) 0 i a) kk (fun n ρ b hI => ?_) (fun n ρ b i hi hI => ?_) (pC P) 0 10000 σ a (by omega) (by omega) ⟨eqB.rf _ _, hσ, rfl⟩) (fun ρ hx => Exists.elim hx (fun b hy => ?_))
  · rw [fX11_passes_L24, hI.1.1 0 (by omega), h7, if_pos (nI_le (by omega) (by omega))]
  · obtain ⟨q1, q2, q3⟩ := hI
    have e0 := ht.1 0 (by omega)
    have e1 := ht.1 (7 + 8 * h + i) (by omega)
    have v0 : ρ.1 k 0 = nI (t 0 + 1) := by
      rw [q2 0 (by omega)]
      unfold mdT
      rw [if_pos rfl]
    have v1 : ρ.1 k (7 + 8 * h + i) = nI (t (7 + 8 * h + i)) := by
      rw [q2 _ (by omega)]
      unfold mdT
      rw [if_neg (by omega), if_neg (by omega), if_neg (by omega)]
    have go : fX11_passes_L24 k w (nI h) (n + 1) ρ b (nI i) (fun σ a i => kk σ a i) = if t (7 + 8 * h + i) = 0 then fX11_passes_L24 k w (nI h) n ρ b (nI (i + 1)) (fun σ a i => kk σ a i) else if t 0 + 1 < t (7 + 8 * h + i) then fX11_passes_L24 k w (nI h) n ρ b (nI (i + 1)) (fun σ a i => kk σ a i) else fX11_passes_L24 k w (nI h) n (su ρ k (7 + 8 * h + i) (nI 0)) (b + 1) (nI (i + 1)) (fun σ a i => kk σ a i) := by
      rw [fX11_passes_L24, q1.1 0 (by omega), h7, if_neg (nI_ge hi (by omega)), L_8, L_7, pk_mul, nI_add, nI_add, rdM (show 7 + 8 * h + i < LM k by rw [hLk]; omega), jn_s, rdM (show 7 + 8 * h + i < LM k by rw [hLk]; omega), L_0, rdM (show 0 < LM k by rw [hLk]; omega), wrM (show 7 + 8 * h + i < LM k by rw [hLk]; omega), v0, v1, nI_1]
      by_cases z : t (7 + 8 * h + i) = 0
      · rw [if_pos z, z, if_pos (nI_le (by omega) (by omega))]
      · rw [if_neg z, if_neg (nI_ge (by omega) (by omega))]
        by_cases z2 : t 0 + 1 < t (7 + 8 * h + i)
        · rw [if_pos z2, if_pos (nI_lt z2 (by omega))]
        · rw [if_neg z2, if_neg (nI_nlt (by omega) (by omega))]
    have fs : fo (fun a c => fFade t a (8 * h + c)) 0 (i + 1) a = if t (7 + 8 * h + i) = 0 then b else if t 0 + 1 < t (7 + 8 * h + i) then b else b + 1 := by
      rw [fo_succ, ← q3, Nat.zero_add]
      unfold fFade
      rw [show 7 + (8 * h + i) = 7 + 8 * h + i by omega]
    have same : (t (7 + 8 * h + i) = 0 ∨ t 0 + 1 < t (7 + 8 * h + i)) → ∀ q, q < 55 → ρ.1 k q = nI (mdT P inc t h (i + 1) q) := by
      intro z q hq
      rw [q2 q hq]
      unfold mdT
      by_cases e : q = 7 + 8 * h + i
      · rw [e, if_neg (by omega), if_neg (by omega), if_neg (by omega), if_neg (by omega), if_neg (by omega)]
        by_cases w : 7 + 8 * h + i < 7 + 8 * h + (i + 1) ∧ t (7 + 8 * h + i) ≤ t 0 + 1
        · rw [if_pos w]; rw [show t (7 + 8 * h + i) = 0 by omega]
        · rw [if_neg w]
      · by_cases a1 : q = 0
        · rw [if_pos a1, if_pos a1]
        · rw [if_neg a1, if_neg a1]
          by_cases a2 : q < 7
          · rw [if_pos a2, if_pos a2]
          · rw [if_neg a2, if_neg a2]
            by_cases a3 : q < 7 + 8 * h + i ∧ t q ≤ t 0 + 1
            · rw [if_pos a3, if_pos (by omega)]
            · rw [if_neg a3, if_neg (by omega)]
    by_cases z : t (7 + 8 * h + i) = 0
    · refine ⟨ρ, b, ⟨q1, same (Or.inl z), ?_⟩, ?_⟩
      · rw [fs, if_pos z]
      · rw [go, if_pos z]
    · by_cases z2 : t 0 + 1 < t (7 + 8 * h + i)
      · refine ⟨ρ, b, ⟨q1, same (Or.inr z2), ?_⟩, ?_⟩
        · rw [fs, if_neg z, if_pos z2]
        · rw [go, if_neg z, if_pos z2]
      · refine ⟨su ρ k (7 + 8 * h + i) (nI 0), b + 1, ⟨q1.trans eqB.w, fun q hq => ?_, ?_⟩, ?_⟩
        · rw [su_11]
          by_cases e : q = 7 + 8 * h + i
          · rw [if_pos ⟨rfl, e⟩]
            unfold mdT
            rw [if_neg (by omega), if_neg (by omega), if_pos (by rw [e]; omega)]
          · rw [if_neg (fun x => e x.2), q2 q hq]
            unfold mdT
            by_cases a1 : q = 0
            · rw [if_pos a1, if_pos a1]
            · rw [if_neg a1, if_neg a1]
              by_cases a2 : q < 7
              · rw [if_pos a2, if_pos a2]
              · rw [if_neg a2, if_neg a2]
                by_cases a3 : q < 7 + 8 * h + i ∧ t q ≤ t 0 + 1
                · rw [if_pos a3, if_pos (by omega)]
                · rw [if_neg a3, if_neg (by omega)]
        · rw [fs, if_neg z, if_neg z2]
        · rw [go, if_neg z, if_neg z2]
  · obtain ⟨⟨q1, q2, q3⟩, e⟩ := hy
    exact ⟨ρ, q1, q2, by rw [← q3]; exact e⟩
theorem passesM {σ : St} {P : Pl} {t : Tw} {inc : Nat → Nat} {out : Nat → Bool} {k : Nat} {w : Int32} (hP : PlanOk P) (hM : PlM σ P) (hk : k = 10 ∨ k = 11) (ht : TwW P t) (tM : TwM (σ.1 k) t) (hw : ∀ (ρ : St) h, h < pH P → fX11_has ρ w (nI h) = some (ρ, if out h then 1 else 0)) (hi0 : ∀ h, h < pH P → inc h = if out h then 0 else ic P h) : ∃ ρ, fX11_passes σ k w = some (ρ, fo (fFade t) 0 48 0) ∧ eqB k σ ρ ∧ TwM (ρ.1 k) (monthN P inc t) := by
  have h6 := hP.1
  have h8 := hP.2.1
  have hLk : LM k = 55 := by rcases hk with rfl | rfl <;> rfl
  have e0 := ht.1 0 (by omega)
  unfold fX11_passes
  rw [L_0, rdM (show 0 < LM k by rw [hLk]; omega), tM 0 (by omega), nI_1, wrM (show 0 < LM k by rw [hLk]; omega)]
  refine Exists.elim (jloop (fun n σ a i k2 => fX11_passes_L12 k w n σ a i (fun σ a i => k2 σ a i)) (pH P) (fun i ρ b => eqB k σ ρ ∧ (∀ q, q < 55 → ρ.1 k q = nI (mdT P inc t i 0 q)) ∧ b = fo (fun a h => fo (fun a c => fFade t a (8 * h + c)) 0 (pC P) a) 0 i (nI 0)) (fun σ29 v30 v31 => some (σ29, v30)) (fun n ρ b hI => ?_) (fun n ρ b i hi hI => ?_) (pH P) 0 10000 (su σ k 0 (nI (t 0 + 1))) (nI 0) (by omega) (by omega) ⟨eqB.w, fun q hq => ?_, rfl⟩) (fun ρ hx => Exists.elim hx (fun b hy => ?_))
  · rw [fX11_passes_L12, (hI.1.plan hk hM).1, if_pos (nI_le (by omega) (by omega))]
  · obtain ⟨q1, q2, q3⟩ := hI
    have pM := q1.plan hk hM
    obtain ⟨ρ1, r1, r2, r3⟩ := passInM (w := w) (a := b) hP hk pM.2.1 (show i < 6 by omega) ht q2 (fun σ16 v17 v18 => rd LM σ16 5 (nI i) (fun x19 => rd LM σ16 k (1 + nI i) (fun x20 => cl (fX11_has σ16 w (nI i)) (fun σ21 r22 => jn (fun (y24 : Int32) => cl (fX11_nextPurse σ21 x19 x20 y24) (fun σ25 r26 => wr LM σ25 k (1 + nI i) r26 (fun σ27 => fX11_passes_L12 k w n σ27 v17 (nI i + 1) (fun σ29 v30 v31 => some (σ29, v30))))) (fun k23 => (if r22 = 0 then rd LM σ21 6 (nI i) (fun x28 => k23 x28) else k23 0))))))
    have pM1 := r1.plan hk pM
    have hu := ht.2.1 i hi
    have hkd := (hP.2.2.2.1 i hi).1
    have hic := (hP.2.2.2.1 i hi).2
    have v1 : ρ1.1 k (1 + i) = nI (t (1 + i)) := by
      rw [r2 (1 + i) (by omega)]
      unfold mdT
      rw [if_neg (by omega), if_pos (by omega), if_neg (by omega)]
    refine ⟨su ρ1 k (1 + i) (nI (nxt (kd P i) (inc i) (t (1 + i)))), fo (fun a c => fFade t a (8 * i + c)) 0 (pC P) b, ⟨(q1.trans r1).trans eqB.w, fun q hq => ?_, ?_⟩, ?_⟩
    · rw [su_11]
      by_cases e : q = 1 + i
      · rw [if_pos ⟨rfl, e⟩]
        unfold mdT
        rw [if_neg (by omega), if_pos (by omega), if_pos (by omega), e, Nat.add_sub_cancel_left]
      · rw [if_neg (fun x => e x.2), r2 q hq]
        unfold mdT
        by_cases a1 : q = 0
        · rw [if_pos a1, if_pos a1]
        · rw [if_neg a1, if_neg a1]
          by_cases a2 : q < 7
          · rw [if_pos a2, if_pos a2]
            by_cases a3 : q < 1 + i
            · rw [if_pos a3, if_pos (by omega)]
            · rw [if_neg a3, if_neg (by omega)]
          · rw [if_neg a2, if_neg a2]
            by_cases a3 : q < 7 + 8 * i + pC P ∧ t q ≤ t 0 + 1
            · rw [if_pos a3, if_pos (by omega)]
            · rw [if_neg a3]
              by_cases a4 : q < 7 + 8 * (i + 1) + 0 ∧ t q ≤ t 0 + 1
              · rw [if_pos a4]
                have := ht.out (s := q - 7) (by omega) (by omega)
                rw [show 7 + (q - 7) = q by omega] at this
                rw [this]
              · rw [if_neg a4]
    · rw [fo_succ, ← q3, Nat.zero_add]
    · show fX11_passes_L12 k w (n + 1) ρ b (nI i) (fun σ29 v30 v31 => some (σ29, v30)) = _
      rw [fX11_passes_L12, pM.1, if_neg (nI_ge hi (by omega)), r3, rdM (show i < LM 5 by show i < 6; omega), L_1, nI_add, rdM (show 1 + i < LM k by rw [hLk]; omega), v1, (pM1.2.2.1 i hi).1, hw ρ1 i hi, cl_s, jn_s, hi0 i hi]
      cases out i
      · simp only [Bool.false_eq_true, if_false, if_true]
        rw [rdM (show i < LM 6 by show i < 6; omega), (pM1.2.2.1 i hi).2, nxtM ρ1 hkd hic hu, cl_s, wrM (show 1 + i < LM k by rw [hLk]; omega), nI_add]
      · simp only [if_true, o10, if_false, L_1]
        rw [L_0, nxtM ρ1 hkd (show 0 ≤ 9 by omega) hu, cl_s, wrM (show 1 + i < LM k by rw [hLk]; omega), nI_add, if_neg (show ¬ nI 1 = nI 0 by decide)]
  · rw [su_11]
    unfold mdT
    by_cases e : q = 0
    · rw [if_pos ⟨rfl, e⟩, if_pos e]
    · rw [if_neg (fun x => e x.2), if_neg e, tM q hq]
      by_cases a2 : q < 7
      · rw [if_pos a2, if_neg (by omega)]
      · rw [if_neg a2, if_neg (by omega)]
  · obtain ⟨⟨q1, q2, q3⟩, e⟩ := hy
    refine ⟨ρ, ?_, q1, fun j hj => ?_⟩
    · rw [fo_flat (fFade t) h6 h8 (nI 0) (fun a s hs n => by unfold fFade; rw [if_pos (ht.out hs n)]), ← q3]
      exact e
    · rw [q2 j hj]
      unfold mdT monthN
      by_cases a1 : j = 0
      · rw [if_pos a1, if_pos a1]
      · rw [if_neg a1, if_neg a1]
        by_cases a2 : j < 7
        · rw [if_pos a2, if_pos a2]
        · rw [if_neg a2, if_neg a2]
          by_cases a3 : j < 7 + 8 * pH P + 0 ∧ t j ≤ t 0 + 1
          · rw [if_pos a3, if_pos a3.2]
          · rw [if_neg a3]
            by_cases a4 : t j ≤ t 0 + 1
            · rw [if_pos a4]
              have := ht.out (s := j - 7) (by omega) (by omega)
              rw [show 7 + (j - 7) = j by omega] at this
              rw [this]
            · rw [if_neg a4]
