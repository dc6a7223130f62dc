/-! step: test -/
theorem nloop {β : Type} (Lp : Nat → St → Int32 → Int32 → (St → Int32 → Int32 → Option β) → Option β) (e : Nat) (σ : St) (f : Nat → Nat → Nat) (I : Nat → Nat → Prop) (k : St → Int32 → Int32 → Option β) (hI : ∀ a i, i < e → I i a → I (i + 1) (f a i)) (hun : ∀ n a i, i ≤ e → I i a → Lp (n + 1) σ (nI a) (nI i) k = if e ≤ i then k σ (nI a) (nI i) else Lp n σ (nI (f a i)) (nI (i + 1)) k) : ∀ (m i fuel a : Nat), i + m = e → m < fuel → I i a → Lp fuel σ (nI a) (nI i) k = k σ (nI (fo f i m a)) (nI e) ∧ I e (fo f i m a) := by
  intro m
  induction m with
  | zero =>
    intro i fuel a hi hf h
    match fuel, hf with
    | n + 1, _ =>
      have hie : i = e := by omega
      rw [hun n a i (by omega) h, if_pos (by omega), hie]
      rw [hie] at h
      exact ⟨rfl, h⟩
  | succ m ih =>
    intro i fuel a hi hf h
    match fuel, hf with
    | n + 1, hf =>
      rw [hun n a i (by omega) h, if_neg (by omega)]
      exact ih (i + 1) n (f a i) (by omega) (by omega) (hI a i (by omega) h)
def alF (S : Int32) (p : Nat → Nat) (a c b : Nat) : Nat := if (S >>> (nI b &&& 31)) &&& 1 = 0 then c else if p b = p a then c + 1 else c
theorem alF_le (S : Int32) (p : Nat → Nat) (a : Nat) : ∀ m i c, fo (alF S p a) i m c ≤ c + m
  | 0, _, _ => Nat.le_refl _
  | m + 1, i, c => by
    have h1 := alF_le S p a m (i + 1) (alF S p a c i)
    have h2 : alF S p a c i ≤ c + 1 := by
      unfold alF
      split
      · omega
      · split <;> omega
    show fo (alF S p a) (i + 1) m (alF S p a c i) ≤ c + (m + 1)
    omega
def alk (S : Int32) (p : Nat → Nat) (a : Nat) : Nat := fo (alF S p a) 0 6 0
theorem alk_le (S : Int32) (p : Nat → Nat) (a : Nat) : alk S p a ≤ 6 := alF_le S p a 6 0 0
def grF (S : Int32) (p : Nat → Nat) (g a : Nat) : Nat := if (S >>> (nI a &&& 31)) &&& 1 = 0 then g else if g < alk S p a then alk S p a else g
def gr (S : Int32) (p : Nat → Nat) : Nat := fo (grF S p) 0 6 0
theorem grF_le {S : Int32} {p : Nat → Nat} {g a : Nat} (h : g ≤ 6) : grF S p g a ≤ 6 := by
  have := alk_le S p a
  unfold grF
  split
  · exact h
  · split <;> omega
theorem alikeC {τ : St} {p : Nat → Nat} (hp : ∀ k, k < 6 → p k < 1000 ∧ τ.1 47 k = nI (p k)) {a : Nat} (ha : a < 6) (S : Int32) : fX1_alike τ (nI a) S = some (τ, nI (alk S p a)) := by
  unfold fX1_alike
  rw [L_0]
  have L := (nloop (fun n σ c i k => fX1_alike_L5 (nI a) S n σ c i k) 6 τ (alF S p a) (fun _ _ => True) (fun σ8 v9 v10 => some (σ8, v9)) (fun _ _ _ _ => trivial) (fun n c i hi _ => by
    show fX1_alike_L5 (nI a) S (n + 1) τ (nI c) (nI i) (fun σ8 v9 v10 => some (σ8, v9)) = if 6 ≤ i then _ else fX1_alike_L5 (nI a) S n τ (nI (alF S p a c i)) (nI (i + 1)) (fun σ8 v9 v10 => some (σ8, v9))
    rw [fX1_alike_L5, L_6]
    by_cases q : 6 ≤ i
    · rw [if_pos q, if_pos (nI_le q (by omega))]
    · rw [if_neg q, if_neg (nI_ge (by omega) (by omega))]
      simp only [jn_s, nI_1]
      unfold alF
      by_cases b : (S >>> (nI i &&& 31)) &&& 1 = 0
      · rw [if_pos b, if_pos b]
      · have p1 := hp i (by omega)
        have p2 := hp a ha
        rw [if_neg b, if_neg b, rdC (show i < LC 47 by show i < 6; omega), p1.2, rdC (show a < LC 47 from ha), p2.2]
        by_cases z : p i = p a
        · rw [if_pos z, if_pos (by rw [z])]
        · rw [if_neg z, if_neg (fun q => z ((nI_eq (by omega) (by omega)).mp q))]) 6 0 10000 0 (by omega) (by omega) trivial).1
  exact L
theorem greatC {τ : St} {p : Nat → Nat} (hp : ∀ k, k < 6 → p k < 1000 ∧ τ.1 47 k = nI (p k)) (S : Int32) : fX1_greatestPart τ S = some (τ, nI (gr S p)) := by
  unfold fX1_greatestPart
  rw [L_0]
  have L := (nloop (fun n σ c i k => fX1_greatestPart_L4 S n σ c i k) 6 τ (grF S p) (fun _ g => g ≤ 6) (fun σ9 v10 v11 => some (σ9, v10)) (fun _ _ _ h => grF_le h) (fun n c i hi h => by
    show fX1_greatestPart_L4 S (n + 1) τ (nI c) (nI i) (fun σ9 v10 v11 => some (σ9, v10)) = if 6 ≤ i then _ else fX1_greatestPart_L4 S n τ (nI (grF S p c i)) (nI (i + 1)) (fun σ9 v10 v11 => some (σ9, v10))
    rw [fX1_greatestPart_L4, L_6]
    by_cases q : 6 ≤ i
    · rw [if_pos q, if_pos (nI_le q (by omega))]
    · rw [if_neg q, if_neg (nI_ge (by omega) (by omega))]
      simp only [jn_s, nI_1]
      unfold grF
      have al := alk_le S p i
      by_cases b : (S >>> (nI i &&& 31)) &&& 1 = 0
      · rw [if_pos b, if_pos b]
      · rw [if_neg b, if_neg b, alikeC hp (show i < 6 by omega), cl_s]
        by_cases z : c < alk S p i
        · rw [if_pos z, if_pos (nI_lt z (by omega))]
        · rw [if_neg z, if_neg (nI_nlt (by omega) (by omega))]) 6 0 10000 0 (by omega) (by omega) (by omega)).1
  exact L
def alM (S : Int32) (p : Nat → Nat) (a c b : Nat) : Nat := if (S >>> (nI a &&& 31)) &&& 1 = 0 then c else alF S p a c b
theorem alM_eq (S : Int32) (p : Nat → Nat) (a : Nat) : fo (alM S p a) 0 6 0 = if (S >>> (nI a &&& 31)) &&& 1 = 0 then 0 else alk S p a := by
  by_cases b : (S >>> (nI a &&& 31)) &&& 1 = 0
  · rw [if_pos b, fo_id _ _ _ _ (fun c j _ _ => by unfold alM; rw [if_pos b])]
  · rw [if_neg b]
    exact fo_congr 6 0 0 (fun c j _ _ => by unfold alM; rw [if_neg b])
theorem alikeM {ρ : St} {p : Nat → Nat} (hp : ∀ k, k < 6 → p k < 1000 ∧ ρ.1 22 k = nI (p k)) {a : Nat} (ha : a < 6) (S v2 : Int32) (k : St → Int32 → Int32 → Option (St × Int32)) : fX11_greatest_L16 S v2 (nI a) 10000 ρ 0 0 k = k ρ (nI (fo (alM S p a) 0 6 0)) (nI 6) := by
  rw [L_0]
  exact (nloop (fun n σ c i k => fX11_greatest_L16 S v2 (nI a) n σ c i k) 6 ρ (alM S p a) (fun _ _ => True) k (fun _ _ _ _ => trivial) (fun n c i hi _ => by
    show fX11_greatest_L16 S v2 (nI a) (n + 1) ρ (nI c) (nI i) k = if 6 ≤ i then _ else fX11_greatest_L16 S v2 (nI a) n ρ (nI (alM S p a c i)) (nI (i + 1)) k
    rw [fX11_greatest_L16, L_6]
    by_cases q : 6 ≤ i
    · rw [if_pos q, if_pos (nI_le q (by omega))]
    · rw [if_neg q, if_neg (nI_ge (by omega) (by omega))]
      unfold alM
      rcases and1 (S >>> (nI a &&& 31)) with b | b
      · rw [hasB0 ρ b, if_pos b]
        simp only [cl_s, jn_s, nI_1, if_true, Int32.add_zero]
      · rw [hasB1 ρ b, if_neg (by rw [b]; decide)]
        simp only [cl_s, jn_s, nI_1, o10, if_false]
        unfold alF
        rcases and1 (S >>> (nI i &&& 31)) with b2 | b2
        · rw [hasB0 ρ b2, if_pos b2]
          simp only [cl_s, if_true, Int32.add_zero]
        · have p1 := hp i (by omega)
          have p2 := hp a ha
          rw [hasB1 ρ b2, if_neg (by rw [b2]; decide)]
          simp only [cl_s, o10, if_false]
          rw [rdM (show a < LM 22 from ha), p2.2, rdM (show i < LM 22 by show i < 6; omega), p1.2]
          by_cases z : p i = p a
          · rw [if_pos z, if_pos (by rw [z])]
          · rw [if_neg z, if_neg (fun q => z ((nI_eq (by omega) (by omega)).mp q).symm), Int32.add_zero]) 6 0 10000 0 (by omega) (by omega) trivial).1
theorem greatM {ρ : St} {p : Nat → Nat} (hp : ∀ k, k < 6 → p k < 1000 ∧ ρ.1 22 k = nI (p k)) (S : Int32) : fX11_greatest ρ S = some (ρ, nI (gr S p)) := by
  unfold fX11_greatest
  rw [L_0]
  have L := (nloop (fun n σ c i k => fX11_greatest_L4 S n σ c i k) 6 ρ (grF S p) (fun _ g => g ≤ 6) (fun σ23 v24 v25 => some (σ23, v24)) (fun _ _ _ h => grF_le h) (fun n c i hi h => by
    show fX11_greatest_L4 S (n + 1) ρ (nI c) (nI i) (fun σ23 v24 v25 => some (σ23, v24)) = if 6 ≤ i then _ else fX11_greatest_L4 S n ρ (nI (grF S p c i)) (nI (i + 1)) (fun σ23 v24 v25 => some (σ23, v24))
    rw [fX11_greatest_L4, L_6]
    by_cases q : 6 ≤ i
    · rw [if_pos q, if_pos (nI_le q (by omega))]
    · rw [if_neg q, if_neg (nI_ge (by omega) (by omega)), alikeM hp (show i < 6 by omega), alM_eq, pv_s, nI_1]
      unfold grF
      have al := alk_le S p i
      by_cases b : (S >>> (nI i &&& 31)) &&& 1 = 0
      · rw [if_pos b, if_pos b, if_pos (nI_le (by omega) (by omega))]
      · rw [if_neg b, if_neg b]
        by_cases z : c < alk S p i
        · rw [if_pos z, if_neg (nI_ge z (by omega))]
        · rw [if_neg z, if_pos (nI_le (by omega) (by omega))]) 6 0 10000 0 (by omega) (by omega) (by omega)).1
  exact L
theorem monthsC {τ τ1 : St} {P : Pl} (hP : PlanOk P) (hC : PlC τ P) (e : eqB 47 τ τ1) {p : Nat → Nat} (hp : ∀ k, k < 6 → p k ≤ 99 ∧ τ1.1 47 k = nI (p k)) {h : Nat} (hh : h < pH P) : ∃ τ', fX1_passMonth τ1 (nI h) = some (τ', ()) ∧ eqB 47 τ τ' ∧ ∀ k, k < 6 → τ'.1 47 k = nI (nxt k (ic P h) (p k)) := by
  have h6 := hP.1
  unfold fX1_passMonth
  rw [L_0]
  have L := iloop (fun n σ i k => fX1_passMonth_L2 (nI h) n σ i k) 6 (fun i ρ => eqB 47 τ ρ ∧ ∀ k, k < 6 → ρ.1 47 k = nI (if k < i then nxt k (ic P h) (p k) else p k)) (fun σ8 v9 => some (σ8, ())) (fun n ρ hI => by
      show fX1_passMonth_L2 (nI h) (n + 1) ρ (nI 6) (fun σ8 v9 => some (σ8, ())) = _
      rw [fX1_passMonth_L2, L_6, if_pos (nI_le (by omega) (by omega))]) (fun n ρ i hi hI => by
      obtain ⟨q1, q2⟩ := hI
      have v := q2 i hi
      rw [if_neg (by omega)] at v
      refine ⟨su ρ 47 i (nI (nxt i (ic P h) (p i))), ⟨q1.trans eqB.w, fun k hk => ?_⟩, ?_⟩
      · rw [su_11]
        by_cases z : k = i
        · rw [if_pos ⟨rfl, z⟩, if_pos (by omega), z]
        · rw [if_neg (fun q => z q.2), q2 k hk]
          by_cases y : k < i
          · rw [if_pos y, if_pos (by omega)]
          · rw [if_neg y, if_neg (by omega)]
      · show fX1_passMonth_L2 (nI h) (n + 1) ρ (nI i) (fun σ8 v9 => some (σ8, ())) = _
        rw [fX1_passMonth_L2, L_6, if_neg (nI_ge hi (by omega)), rdC (show h < LC 32 by show h < 6; omega), q1.1 32 (by omega), (hC.2.2.1 h hh).2, rdC (show i < LC 47 from hi), v, nxtC ρ hi (hP.2.2.2.1 h hh).2 (hp i hi).1, cl_s, wrC (show i < LC 47 from hi), nI_1]) 6 0 10000 τ1 (by omega) (by omega) ⟨e, fun k hk => by rw [if_neg (by omega)]; exact (hp k hk).2⟩
  obtain ⟨τ', ⟨q1, q2⟩, e2⟩ := L
  exact ⟨τ', e2, q1, fun k hk => by rw [q2 k hk, if_pos hk]⟩
theorem monthsM {σ ρ1 : St} {P : Pl} (hP : PlanOk P) (hM : PlM σ P) (e : eqB 22 σ ρ1) {p : Nat → Nat} (hp : ∀ k, k < 6 → p k ≤ 99 ∧ ρ1.1 22 k = nI (p k)) {h : Nat} (hh : h < pH P) (S a b c : Int32) (kk : St → Int32 → Option (St × Int32)) : ∃ ρ', fX11_test_L100 (nI h) S a b c 10000 ρ1 0 kk = kk ρ' (nI 6) ∧ eqB 22 σ ρ' ∧ ∀ k, k < 6 → ρ'.1 22 k = nI (nxt k (ic P h) (p k)) := by
  have h6 := hP.1
  rw [L_0]
  have L := iloop (fun n σ i k => fX11_test_L100 (nI h) S a b c n σ i k) 6 (fun i ρ => eqB 22 σ ρ ∧ ∀ k, k < 6 → ρ.1 22 k = nI (if k < i then nxt k (ic P h) (p k) else p k)) kk (fun n ρ hI => by
      show fX11_test_L100 (nI h) S a b c (n + 1) ρ (nI 6) kk = _
      rw [fX11_test_L100, L_6, if_pos (nI_le (by omega) (by omega))]) (fun n ρ i hi hI => by
      obtain ⟨q1, q2⟩ := hI
      have v := q2 i hi
      rw [if_neg (by omega)] at v
      refine ⟨su ρ 22 i (nI (nxt i (ic P h) (p i))), ⟨q1.trans eqB.w, fun k hk => ?_⟩, ?_⟩
      · rw [su_11]
        by_cases z : k = i
        · rw [if_pos ⟨rfl, z⟩, if_pos (by omega), z]
        · rw [if_neg (fun q => z q.2), q2 k hk]
          by_cases y : k < i
          · rw [if_pos y, if_pos (by omega)]
          · rw [if_neg y, if_neg (by omega)]
      · show fX11_test_L100 (nI h) S a b c (n + 1) ρ (nI i) kk = _
        rw [fX11_test_L100, L_6, if_neg (nI_ge hi (by omega)), rdM (show i < LM 22 from hi), v, rdM (show h < LM 6 by show h < 6; omega), q1.1 6 (by omega), (hM.2.2.1 h hh).2, nxtM ρ hi (hP.2.2.2.1 h hh).2 (hp i hi).1, cl_s, wrM (show i < LM 22 from hi), nI_1]) 6 0 10000 ρ1 (by omega) (by omega) ⟨e, fun k hk => by rw [if_neg (by omega)]; exact (hp k hk).2⟩
  obtain ⟨ρ', ⟨q1, q2⟩, e2⟩ := L
  exact ⟨ρ', e2, q1, fun k hk => by rw [q2 k hk, if_pos hk]⟩
theorem testS {τ σ : St} {P : Pl} (hR : Rel τ σ) (hP : PlanOk P) (hC : PlC τ P) (hM : PlM σ P) {h u : Nat} (hh : h < pH P) (hu : u ≤ 99) (S : Int32) : ∀ (m j f g : Nat) (τ1 ρ1 : St) (wh : Int32) (lC lM : Nat), j + m = 20 → m < f → m < g → eqB 47 τ τ1 → eqB 22 σ ρ1 → (∀ k, k < 6 → τ1.1 47 k = nI (itU k (ic P h) u j)) → (∀ k, k < 6 → ρ1.1 22 k = nI (itU k (ic P h) u j)) → lC ≤ 9 → (lC = lM ∨ (lC = 7 ∧ lM = 9 ∧ 1 ≤ m)) → ∃ (τ' σ' : St) (r : Int32), fX10_test_L96 (nI h) S f τ1 wh (nI lC) (nI (j + 1)) (fun σ26 v27 v28 v29 => pt (su σ26 0 11 v28) (fun σ30 => some (σ30, v27))) = some (τ', r) ∧ fX11_test_L90 (nI h) S g ρ1 wh (nI lM) (nI (j + 1)) (fun σ34 v35 v36 v37 => cl (fX11_answer σ34 v35 v36) (fun σ38 r39 => some (σ38, r39))) = some (σ', r) ∧ Rel τ' σ' := by
  intro m
  induction m with
  | zero =>
    intro j f g τ1 ρ1 wh lC lM hj hf hg e1 e2 p1 p2 l9 hl
    match f, g, hf, hg with
    | f + 1, g + 1, _, _ =>
      have el : lC = lM := by omega
      rw [fX10_test_L96, fX11_test_L90, if_pos (show (20 : Int32) < nI (j + 1) from nI_lt (a := 20) (by omega) (by omega)), if_pos (show (21 : Int32) ≤ nI (j + 1) from nI_le (a := 21) (by omega) (by omega)), el]
      simp only [fX11_answer, pt_s, cl_s]
      have R1 : Rel τ1 ρ1 := hR.fr (fun k hk => e1.1 k (by omega)) e1.2 (fun k a b c => e2.1 k (by omega)) (fun j _ => by rw [e2.1 0 (by omega)]) e2.2
      exact ⟨_, _, _, rfl, rfl, R1.told _⟩
  | succ m ih =>
    intro j f g τ1 ρ1 wh lC lM hj hf hg e1 e2 p1 p2 l9 hl
    match f, g, hf, hg with
    | f + 1, g + 1, hf, hg =>
      obtain ⟨τ2, c1, c2, c3⟩ := monthsC hP hC e1 (p := fun k => itU k (ic P h) u j) (fun k hk => ⟨itU_le hu j, p1 k hk⟩) hh
      obtain ⟨ρ2, m1, m2, m3⟩ := monthsM hP hM e2 (p := fun k => itU k (ic P h) u j) (fun k hk => ⟨itU_le hu j, p2 k hk⟩) hh S wh (nI lM) (nI (j + 1)) (fun σ26 v27 => cl (fX11_greatest σ26 S) (fun σ28 r29 => pv (if nI lM ≤ r29 then wh else nI (j + 1)) (fun (y31 : Int32) => cl (fX11_less σ28 (nI lM) r29) (fun σ32 r33 => fX11_test_L90 (nI h) S g σ32 y31 r33 (nI (j + 1) + 1) (fun σ34 v35 v36 v37 => cl (fX11_answer σ34 v35 v36) (fun σ38 r39 => some (σ38, r39)))))))
      have c4 : ∀ k, k < 6 → τ2.1 47 k = nI (itU k (ic P h) u (j + 1)) := c3
      have m4 : ∀ k, k < 6 → ρ2.1 22 k = nI (itU k (ic P h) u (j + 1)) := m3
      have gC := greatC (p := fun k => itU k (ic P h) u (j + 1)) (fun k hk => ⟨by have := itU_le (k := k) (i := ic P h) hu (j + 1); show itU k (ic P h) u (j + 1) < 1000; omega, c4 k hk⟩) S
      have gM := greatM (p := fun k => itU k (ic P h) u (j + 1)) (fun k hk => ⟨by have := itU_le (k := k) (i := ic P h) hu (j + 1); show itU k (ic P h) u (j + 1) < 1000; omega, m4 k hk⟩) S
      have g6 : gr S (fun k => itU k (ic P h) u (j + 1)) ≤ 6 := by
        have : ∀ m i g, g ≤ 6 → fo (grF S (fun k => itU k (ic P h) u (j + 1))) i m g ≤ 6 := by
          intro m
          induction m with
          | zero => exact fun i g hg => hg
          | succ m ih => exact fun i g hg => ih (i + 1) _ (grF_le hg)
        exact this 6 0 0 (by omega)
      rw [fX10_test_L96, fX11_test_L90, if_neg (show ¬ (20 : Int32) < nI (j + 1) from nI_nlt (a := 20) (b := j + 1) (by omega) (by omega)), if_neg (show ¬ (21 : Int32) ≤ nI (j + 1) from nI_ge (b := 21) (by omega) (by omega)), c1, cl_s, gC, cl_s, jn_s, m1, gM, cl_s, pv_s]
      revert g6
      generalize gr S (fun k => itU k (ic P h) u (j + 1)) = part
      intro g6
      unfold fX11_less
      by_cases q : lC ≤ part
      · have el : lC = lM := by omega
        subst el
        rw [if_pos (nI_le q (by omega)), if_pos (nI_le q (by omega))]
        by_cases q2 : part ≤ lC
        · rw [if_pos (nI_le q2 (by omega)), cl_s, show part = lC by omega, nI_1]
          exact ih (j + 1) f g τ2 ρ2 wh lC lC (by omega) (by omega) (by omega) c2 m2 c4 m4 l9 (Or.inl rfl)
        · rw [if_neg (nI_ge (by omega) (by omega)), cl_s, nI_1]
          exact ih (j + 1) f g τ2 ρ2 wh lC lC (by omega) (by omega) (by omega) c2 m2 c4 m4 l9 (Or.inl rfl)
      · rw [if_neg (nI_ge (by omega) (by omega)), if_neg (show ¬ nI lM ≤ nI part from nI_ge (by omega) (by omega)), if_pos (show nI part ≤ nI lM from nI_le (by omega) (by omega)), cl_s, nI_1]
        exact ih (j + 1) f g τ2 ρ2 (nI (j + 1)) part part (by omega) (by omega) (by omega) c2 m2 c4 m4 (by omega) (Or.inl rfl)
theorem s_test (τ σ : St) (h : Rel τ σ) (a1 a2 : Int32) : ∃ (τ' σ' : St) (r : Int32), fX10_test τ a1 a2 = some (τ', r) ∧ fX11_test σ a1 a2 = some (σ', r) ∧ Rel τ' σ' := by
  obtain ⟨P, t, hP, hC, hM, ht, tC, tM⟩ := h.view
  have h6 := hP.1
  unfold fX10_test fX11_test
  rcases ix_cases a1 (pH P) (by omega) with ⟨x, hx, rfl⟩ | hbad
  case inr =>
    rw [isHouseC_n hC hbad, isHouseM_n hP hM hbad]
    exact ⟨_, _, _, rfl, rfl, h⟩
  rw [isHouseC_y hP hC hx, isHouseM_y hP hM hx]
  simp only [cl_s, o10, if_false]
  rcases ix_cases a2 6 (by omega) with ⟨r, hr, rfl⟩ | hbad
  case inr =>
    rw [isOne1_no τ hbad, isRow_no σ hbad]
    exact ⟨_, _, _, rfl, rfl, h⟩
  rw [isOne1_yes τ hr, isRow_yes σ hr]
  simp only [cl_s, o10, if_false]
  rcases lacksR h (m := 20) (v := 99) hr (by omega) (by omega) with ⟨τ', σ', l1, l2, l3⟩ | ⟨l1, l2, n, w, n1, n20, c1, m1, hw⟩
  · rw [show fX10_refuseCells τ (nI r) 20 99 = _ from l1, show fX11_lacks σ (nI r) 20 99 = _ from l2, cl_s, cl_s, if_neg (show ¬ (-3 : Int32) = 0 by decide), if_neg (show ¬ (0 : Int32) ≤ -3 by decide)]
    exact ⟨_, _, _, rfl, rfl, l3⟩
  rw [show fX10_refuseCells τ (nI r) 20 99 = _ from l1, show fX11_lacks σ (nI r) 20 99 = _ from l2, cl_s, cl_s, if_pos rfl, if_pos (show (0 : Int32) ≤ 0 by decide), cellsOf1 τ hr, cl_s, sizeOf1 τ hr c1, cl_s, kindsByC hP hC ht tC hx hr (by omega) (fun j q => ⟨(hw j q).1, (hw j q).2.1⟩), kindsByM hP hM ht tM hx hr (by omega) m1 (fun j q => ⟨(hw j q).1, (hw j q).2.2⟩), cl_s, cl_s]
  generalize fo (fKs (fun k => ftB k (ic P x) w 0 n (t (1 + x)))) 0 6 0 = S
  by_cases zS : S = 0
  · rw [if_pos zS, if_pos zS]
    exact ⟨_, _, _, rfl, rfl, h⟩
  have hu := ht.2.1 x hx
  have eC : fX1_start τ (nI x) = some (sc τ 47 (fun j => if j < LC 47 then nI (t (1 + x)) else τ.1 47 j), ()) := by
    unfold fX1_start
    rw [rdC (show x < LC 33 by show x < 6; omega), tC.2.1 x hx, fill_ev τ 47 _ (by decide) (by decide), cl_s]
  have LM1 := iloop (fun n σ i k => fX11_test_L52 (nI x) S n σ i k) 6 (fun i ρ => eqB 22 σ ρ ∧ ∀ k, k < i → ρ.1 22 k = nI (t (1 + x))) (fun σ13 v14 => fX11_test_L90 (nI x) S 10000 σ13 0 9 1 (fun σ34 v35 v36 v37 => cl (fX11_answer σ34 v35 v36) (fun σ38 r39 => some (σ38, r39)))) (fun n ρ hI => by
      show fX11_test_L52 (nI x) S (n + 1) ρ (nI 6) _ = _
      rw [fX11_test_L52, if_pos (show (6 : Int32) ≤ nI 6 from nI_le (a := 6) (by omega) (by omega))]) (fun n ρ i hi hI => by
      obtain ⟨q1, q2⟩ := hI
      refine ⟨su ρ 22 i (nI (t (1 + x))), ⟨q1.trans eqB.w, fun k hk => ?_⟩, ?_⟩
      · rw [su_11]
        by_cases z : k = i
        · rw [if_pos ⟨rfl, z⟩]
        · rw [if_neg (fun q => z q.2), q2 k (by omega)]
      · show fX11_test_L52 (nI x) S (n + 1) ρ (nI i) _ = _
        rw [fX11_test_L52, if_neg (show ¬ (6 : Int32) ≤ nI i from nI_ge (b := 6) hi (by omega)), n_1p, rdM (show 1 + x < LM 10 by show _ < 55; omega), q1.1 10 (by omega), tM (1 + x) (by omega), wrM (show i < LM 22 from hi), nI_1]) 6 0 10000 σ (by omega) (by omega) ⟨eqB.rf 22 σ, fun k hk => absurd hk (by omega)⟩
  obtain ⟨ρ, ⟨q1, q2⟩, e⟩ := LM1
  rw [if_neg zS, if_neg zS, eC, cl_s, show fX11_test_L52 (nI x) S 10000 σ 0 _ = _ from e]
  exact testS h hP hC hM hx hu S 20 0 10000 10000 _ ρ 0 7 9 (by omega) (by omega) (by omega) ⟨fun c hc => sc_o hc, rfl⟩ q1 (fun k hk => by rw [sc_s, if_pos (show k < LC 47 from hk)]; rfl) (fun k hk => by rw [q2 k hk]; rfl) (by omega) (Or.inr ⟨rfl, rfl, by omega⟩)
