/-! a town's text, sign by sign -/
def smB (x : Int32) : Int32 := if x < 97 then 0 else (if 122 < x then 0 else 1)
theorem smallC (τ : St) (x : Int32) : fX8_isSmall τ x = some (τ, smB x) := by
  unfold fX8_isSmall smB
  by_cases h : x < 97
  · rw [if_pos h, if_pos h]
  · rw [if_neg h, if_neg h]
    by_cases k : 122 < x
    · rw [if_pos k, if_pos k]
    · rw [if_neg k, if_neg k]
theorem letterM (σ : St) (x : Int32) : fX11_isLetter σ x = some (σ, smB x) := by
  unfold fX11_isLetter smB
  have e := in_ev σ x 97 122
  rw [show fX11_in σ x.toInt64 97 122 = _ from e, cl_s]
  by_cases h : x < 97
  · rw [if_pos h, if_neg (fun q => by have := q.1; rw [i_le] at this; rw [i_lt] at h; omega)]
    rfl
  · rw [if_neg h]
    by_cases k : 122 < x
    · rw [if_pos k, if_neg (fun q => by have := q.2; rw [i_le] at this; rw [i_lt] at k; omega)]
      rfl
    · rw [if_neg k, if_pos ⟨Int32.not_lt.mp h, Int32.not_lt.mp k⟩]
      rfl
theorem smL_or (x : Int32) : (∃ w, w ≤ 25 ∧ x = nI (97 + w)) ∨ smB x = 0 := by
  by_cases h : ((97 : Nat) : Int) ≤ x.toInt ∧ x.toInt ≤ (122 : Nat)
  · obtain ⟨j, a, b, rfl⟩ := between h (by omega)
    exact Or.inl ⟨j - 97, by omega, by rw [show 97 + (j - 97) = j by omega]⟩
  · refine Or.inr ?_
    unfold smB
    have e1 : (97 : Int32).toInt = 97 := rfl
    have e2 : (122 : Int32).toInt = 122 := rfl
    by_cases k : x < 97
    · rw [if_pos k]
    · rw [if_neg k, if_pos (by rw [i_lt] at k ⊢; omega)]
theorem sm_y {w : Nat} (h : w ≤ 25) : smB (nI (97 + w)) = 1 := by
  unfold smB
  rw [if_neg (show ¬ nI (97 + w) < (97 : Int32) from nI_nlt (b := 97) (by omega) (by omega)), if_neg (show ¬ (122 : Int32) < nI (97 + w) from nI_nlt (a := 122) (by omega) (by omega))]
def fgB (l : Nat) (x : Int32) : Int32 := if x < 48 + nI l then 0 else (if 57 < x then 0 else 1)
theorem figC (τ : St) (l : Nat) (x : Int32) : fX8_isFigure τ x (nI l) = some (τ, fgB l x) := by
  unfold fX8_isFigure fgB
  by_cases h : x < 48 + nI l
  · rw [if_pos h, if_pos h]
  · rw [if_neg h, if_neg h]
    by_cases k : 57 < x
    · rw [if_pos k, if_pos k]
    · rw [if_neg k, if_neg k]
theorem fg_or {l : Nat} (hl : l ≤ 1) (x : Int32) : (∃ v, l ≤ v ∧ v ≤ 9 ∧ x = nI (48 + v)) ∨ fgB l x = 0 := by
  by_cases h : ((48 + l : Nat) : Int) ≤ x.toInt ∧ x.toInt ≤ (57 : Nat)
  · obtain ⟨j, a, b, rfl⟩ := between h (by omega)
    exact Or.inl ⟨j - 48, by omega, by omega, by rw [show 48 + (j - 48) = j by omega]⟩
  · refine Or.inr ?_
    unfold fgB
    have e1 : ((48 : Int32) + nI l).toInt = ((48 + l : Nat) : Int) := by
      rw [show (48 : Int32) + nI l = nI (48 + l) from nI_add 48 l, nI_toInt (by omega)]
    have e2 : (57 : Int32).toInt = 57 := rfl
    by_cases k : x < 48 + nI l
    · rw [if_pos k]
    · rw [if_neg k, if_pos (by rw [i_lt] at k ⊢; omega)]
theorem fg_y {l v : Nat} (hl : l ≤ v) (h9 : v ≤ 9) : fgB l (nI (48 + v)) = 1 := by
  unfold fgB
  rw [show (48 : Int32) + nI l = nI (48 + l) from nI_add 48 l, if_neg (nI_nlt (by omega) (by omega)), if_neg (show ¬ (57 : Int32) < nI (48 + v) from nI_nlt (a := 57) (by omega) (by omega))]
def kvB (x : Int32) : Int32 := if x = 66 then 3 else (if x = 72 then 0 else (if x = 73 then 4 else (if x = 77 then 2 else (if x = 83 then 1 else (if x = 87 then 5 else (-9))))))
theorem kindC (τ : St) (x : Int32) : fX2_bySign τ x = some (τ, kvB x) := by
  unfold fX2_bySign kvB
  by_cases a : x = 66
  · rw [if_pos a, if_pos a]
  rw [if_neg a, if_neg a]
  by_cases a : x = 72
  · rw [if_pos a, if_pos a]
  rw [if_neg a, if_neg a]
  by_cases a : x = 73
  · rw [if_pos a, if_pos a]
  rw [if_neg a, if_neg a]
  by_cases a : x = 77
  · rw [if_pos a, if_pos a]
  rw [if_neg a, if_neg a]
  by_cases a : x = 83
  · rw [if_pos a, if_pos a]
  rw [if_neg a, if_neg a]
  by_cases a : x = 87
  · rw [if_pos a, if_pos a]
  rw [if_neg a, if_neg a]
theorem kindM (σ : St) (x : Int32) : fX11_kindOf σ x = some (σ, kvB x) := kindC σ x
theorem kv_or (x : Int32) : kvB x = -9 ∨ ∃ k, k < 6 ∧ kvB x = nI k := by
  unfold kvB
  by_cases a : x = 66
  · rw [if_pos a]
    exact Or.inr ⟨3, by omega, rfl⟩
  rw [if_neg a]
  by_cases a : x = 72
  · rw [if_pos a]
    exact Or.inr ⟨0, by omega, rfl⟩
  rw [if_neg a]
  by_cases a : x = 73
  · rw [if_pos a]
    exact Or.inr ⟨4, by omega, rfl⟩
  rw [if_neg a]
  by_cases a : x = 77
  · rw [if_pos a]
    exact Or.inr ⟨2, by omega, rfl⟩
  rw [if_neg a]
  by_cases a : x = 83
  · rw [if_pos a]
    exact Or.inr ⟨1, by omega, rfl⟩
  rw [if_neg a]
  by_cases a : x = 87
  · rw [if_pos a]
    exact Or.inr ⟨5, by omega, rfl⟩
  rw [if_neg a]
  exact Or.inl rfl
-- the text
def TxC (τ : St) (tx : Nat) (T : Nat → Int32) : Prop := ∀ i, i < 90 → τ.1 (13 + tx) i = T i
def TxM (σ : St) (tx n : Nat) (T : Nat → Int32) : Prop := σ.1 3 tx = nI n ∧ ∀ i, i < 90 → σ.1 4 (90 * tx + i) = T i
def hx (n : Nat) (T : Nat → Int32) (i : Nat) : Int32 := if i < n then T i else -1000
theorem hx_y {n : Nat} {T : Nat → Int32} {i : Nat} (h : i < n) : hx n T i = T i := if_pos h
theorem hx_I {n : Nat} {T : Nat → Int32} {i x : Nat} (h31 : x < 2 ^ 31) (h : hx n T i = nI x) : i < n ∧ T i = nI x := by
  unfold hx at h
  by_cases q : i < n
  · rw [if_pos q] at h
    exact ⟨q, h⟩
  · rw [if_neg q] at h
    exact absurd h.symm (nI_nneg h31 (by decide))
section RD
variable {σ : St} {tx n i : Nat} {T : Nat → Int32}
theorem hereM (htx : tx < 4) (hn : n ≤ 90) (hT : TxM σ tx n T) (hp : σ.1 0 22 = nI i) (hi : i ≤ n) : fX11_here σ (nI tx) = some (σ, hx n T i) := by
  unfold fX11_here hx
  rw [rdM (show tx < LM 3 by show tx < 4; omega), hT.1, hp]
  by_cases q : i < n
  · rw [if_pos q, if_neg (nI_ge q (by omega)), L_90, pk_mul, nI_add, rdM (show 90 * tx + i < LM 4 by show _ < 360; omega), hT.2 i (by omega)]
  · rw [if_neg q, if_pos (nI_le (by omega) (by omega))]
theorem m48 (v : Nat) : nI (48 + v) - 48 = nI v := by
  rw [show (48 : Int32) = nI 48 from rfl, pk_sub (by omega), Nat.add_sub_cancel_left]
theorem figM_y (htx : tx < 4) (hn : n ≤ 90) (hT : TxM σ tx n T) (hp : σ.1 0 22 = nI i) (hi : i < n) {l v : Nat} (hl : l ≤ v) (h9 : v ≤ 9) (e : T i = nI (48 + v)) : fX11_figure σ (nI tx) (nI l) = some (su σ 0 22 (nI (i + 1)), 1) := by
  unfold fX11_figure
  rw [hereM htx hn hT hp (by omega), cl_s, hx_y hi, e, m48, show fX11_in σ (nI v).toInt64 (nI l).toInt64 9 = _ from in_nI σ (a := l) (j := v) (n := 9) (by omega) (by omega) (by omega), cl_s, if_pos (show l ≤ v ∧ v ≤ 9 from ⟨hl, h9⟩), if_neg (show ¬ nI 1 = (0 : Int32) by decide), pv_s, pt_s, hp, nI_1]
  rfl
theorem figM_n (htx : tx < 4) (hn : n ≤ 90) (hT : TxM σ tx n T) (hp : σ.1 0 22 = nI i) (hi : i ≤ n) {l : Nat} (hl : l ≤ 1) (e : fgB l (hx n T i) = 0) : fX11_figure σ (nI tx) (nI l) = some (σ, 0) := by
  unfold fX11_figure
  rw [hereM htx hn hT hp hi, cl_s]
  revert e
  generalize hx n T i = x
  intro e
  have k := in_out σ (x := x - 48) (a := l) (n := 9) (by omega) (by omega) (fun q => by
    obtain ⟨v, a, b, c⟩ := between q (by omega)
    have y : x = nI (48 + v) := by
      rw [← Int32.sub_add_cancel x 48, c, Nat.add_comm]
      exact nI_add v 48
    rw [y, fg_y a b] at e
    exact absurd e (by decide))
  rw [show fX11_in σ (x - 48).toInt64 (nI l).toInt64 9 = _ from k, cl_s, if_pos (show nI 0 = (0 : Int32) from rfl), pv_s, pt_s, hp, Int32.add_zero, su_id hp]
  rfl
theorem endM_y (htx : tx < 4) (hn : n ≤ 90) (hT : TxM σ tx n T) (hp : σ.1 0 22 = nI i) (hi : i < n) (e : T i = 59) : fX11_ends σ (nI tx) = some (su σ 0 22 (nI (i + 1)), 1) := by
  unfold fX11_ends
  rw [hereM htx hn hT hp (by omega), cl_s, hx_y hi, if_pos e, pv_s, if_neg (show ¬ (1 : Int32) = 0 by decide), pv_s, pt_s, hp, nI_1]
  rfl
theorem endM_n (htx : tx < 4) (hn : n ≤ 90) (hT : TxM σ tx n T) (hp : σ.1 0 22 = nI i) (hi : i ≤ n) (e : ¬ hx n T i = 59) : fX11_ends σ (nI tx) = some (σ, 0) := by
  unfold fX11_ends
  rw [hereM htx hn hT hp hi, cl_s, if_neg e, pv_s, if_pos rfl, pv_s, pt_s, hp, Int32.add_zero, su_id hp]
  rfl
end RD
def finK (p2 : Int32) (σ11 : St) : Option (St × Int32) := if (σ11.1 17 8) = 0 then (if (σ11.1 17 7) < 2 then some (σ11, p2) else (if 1 ≤ (σ11.1 17 6) then some (σ11, (-9)) else some (σ11, p2))) else some (σ11, p2)
def finC (p1 : Nat) (p2 : Int32) : St → Int32 → Option (St × Int32) := fun σ8 _ => if (σ8.1 17 8) = 1 then cl (fX8_isToldAlready σ8 p1) (fun σ12 r13 => (if r13 = 0 then finK p2 σ12 else rd LC σ12 18 (σ12.1 17 6) (fun x14 => some (σ12, x14)))) else finK p2 σ8
def cL (tx n f : Nat) (τ : St) (i : Nat) : Option (St × Int32) := fX8_read_L17 (13 + tx) (nI n) f τ (nI i) (finC (13 + tx) (nI n))
section CL
variable {tx n f i : Nat} {τ τ' : St} {T : Nat → Int32}
theorem cL_end (hn : n ≤ 90) : cL tx n (f + 1) τ n = finC (13 + tx) (nI n) τ (nI n) := by
  unfold cL
  rw [fX8_read_L17, if_pos (nI_le (Nat.le_refl n) (by omega))]
theorem cL_go (hn : n ≤ 90) (hi : i < n) (h : fX8_step τ (13 + tx) (nI i) = some (τ', -9)) : cL tx n (f + 1) τ i = cL tx n f τ' (i + 1) := by
  unfold cL
  rw [fX8_read_L17, if_neg (nI_ge hi (by omega)), h, cl_s, if_pos rfl, nI_1]
theorem cL_bad (hn : n ≤ 90) (hi : i < n) {j : Nat} (hj : j ≤ 90) (h : fX8_step τ (13 + tx) (nI i) = some (τ', nI j)) : cL tx n (f + 1) τ i = some (τ', nI j) := by
  unfold cL
  rw [fX8_read_L17, if_neg (nI_ge hi (by omega)), h, cl_s, if_neg (nI_nneg (by omega) (by decide))]
theorem nI_nq {a b : Nat} (ha : a < 2 ^ 31) (hb : b < 2 ^ 31) (h : a ≠ b) : ¬ nI a = nI b := fun q => h ((nI_eq ha hb).mp q)
theorem fin_mid {a : Nat} (ha : τ.1 17 8 = nI a) (h2 : 2 ≤ a) (h5 : a ≤ 5) (v : Int32) : finC (13 + tx) (nI n) τ v = some (τ, nI n) := by
  unfold finC finK
  rw [ha, if_neg (show ¬ nI a = (1 : Int32) from nI_nq (b := 1) (by omega) (by omega) (by omega)), if_neg (nI_ne0 (by omega) (by omega))]
theorem stopC (hn : n ≤ 90) {a : Nat} (ha : τ.1 17 8 = nI a) (h2 : 2 ≤ a) (h5 : a ≤ 5) (hi : i ≤ n) (hs : i < n → fX8_step τ (13 + tx) (nI i) = some (τ, nI i)) : cL tx n (f + 1) τ i = some (τ, nI i) := by
  by_cases q : i < n
  · exact cL_bad hn q (by omega) (hs q)
  · rw [show i = n by omega, cL_end hn, fin_mid ha h2 h5]
theorem st4_n (ha : τ.1 17 8 = nI 4) (e : fgB 0 (T i) = 0) : tx < 4 → i < 90 → TxC τ tx T → fX8_step τ (13 + tx) (nI i) = some (τ, nI i) := fun htx hi xC => by
  unfold fX8_step
  rw [rdC (show i < LC (13 + tx) by rw [LC_text htx]; exact hi), xC i hi, ha, if_neg (by decide), if_neg (by decide), if_neg (by decide), if_pos (show nI 4 = (4 : Int32) from rfl), show fX8_isFigure τ (T i) 0 = _ from figC τ 0 (T i), cl_s, if_pos e]
theorem st4_y {nh v : Nat} (ha : τ.1 17 8 = nI 4) (e : T i = nI (48 + v)) (h9 : v ≤ 9) (hh : τ.1 17 7 = nI nh) (h6 : nh < 6) : tx < 4 → i < 90 → TxC τ tx T → fX8_step τ (13 + tx) (nI i) = some (su (su τ 23 nh (nI v)) 17 8 5, -9) := fun htx hi xC => by
  unfold fX8_step
  rw [rdC (show i < LC (13 + tx) by rw [LC_text htx]; exact hi), xC i hi, ha, if_neg (by decide), if_neg (by decide), if_neg (by decide), if_pos (show nI 4 = (4 : Int32) from rfl), show fX8_isFigure τ (T i) 0 = _ from figC τ 0 (T i), cl_s, e, fg_y (by omega) h9, if_neg (by decide)]
  unfold fX8_takeIncome
  rw [hh, wrC (show nh < LC 23 by show nh < 6; omega), m48, pt_s, cl_s]
theorem st5_n (ha : τ.1 17 8 = nI 5) (e : ¬ T i = 59) : tx < 4 → i < 90 → TxC τ tx T → fX8_step τ (13 + tx) (nI i) = some (τ, nI i) := fun htx hi xC => by
  unfold fX8_step
  rw [rdC (show i < LC (13 + tx) by rw [LC_text htx]; exact hi), xC i hi, ha, if_neg (by decide), if_neg (by decide), if_neg (by decide), if_neg (by decide), if_pos (show nI 5 = (5 : Int32) from rfl), if_neg e]
theorem st5_y {nh : Nat} (ha : τ.1 17 8 = nI 5) (e : T i = 59) (hh : τ.1 17 7 = nI nh) : tx < 4 → i < 90 → TxC τ tx T → fX8_step τ (13 + tx) (nI i) = some (su (su τ 17 7 (nI (nh + 1))) 17 8 0, -9) := fun htx hi xC => by
  unfold fX8_step
  rw [rdC (show i < LC (13 + tx) by rw [LC_text htx]; exact hi), xC i hi, ha, if_neg (by decide), if_neg (by decide), if_neg (by decide), if_neg (by decide), if_pos (show nI 5 = (5 : Int32) from rfl), if_pos e]
  unfold fX8_closeHouse
  rw [hh, pt_s, pt_s, cl_s, nI_1]
theorem st2_n (ha : τ.1 17 8 = nI 2) (e : fgB 1 (T i) = 0) : tx < 4 → i < 90 → TxC τ tx T → fX8_step τ (13 + tx) (nI i) = some (τ, nI i) := fun htx hi xC => by
  unfold fX8_step
  rw [rdC (show i < LC (13 + tx) by rw [LC_text htx]; exact hi), xC i hi, ha, if_neg (by decide), if_pos (show nI 2 = (2 : Int32) from rfl), show fX8_isFigure τ (T i) 1 = _ from figC τ 1 (T i), cl_s, if_pos e]
theorem st2_y {nc v : Nat} (ha : τ.1 17 8 = nI 2) (e : T i = nI (48 + v)) (h1 : 1 ≤ v) (h9 : v ≤ 9) (hh : τ.1 17 6 = nI nc) (h8 : nc < 8) : tx < 4 → i < 90 → TxC τ tx T → fX8_step τ (13 + tx) (nI i) = some (su (su τ 21 nc (nI v)) 17 8 3, -9) := fun htx hi xC => by
  unfold fX8_step
  rw [rdC (show i < LC (13 + tx) by rw [LC_text htx]; exact hi), xC i hi, ha, if_neg (by decide), if_pos (show nI 2 = (2 : Int32) from rfl), show fX8_isFigure τ (T i) 1 = _ from figC τ 1 (T i), cl_s, e, fg_y h1 h9, if_neg (by decide)]
  unfold fX8_takeLasts
  rw [hh, wrC (show nc < LC 21 by show nc < 8; omega), m48, pt_s, cl_s]
theorem st3_n (ha : τ.1 17 8 = nI 3) (e : ¬ T i = 59) : tx < 4 → i < 90 → TxC τ tx T → fX8_step τ (13 + tx) (nI i) = some (τ, nI i) := fun htx hi xC => by
  unfold fX8_step
  rw [rdC (show i < LC (13 + tx) by rw [LC_text htx]; exact hi), xC i hi, ha, if_neg (by decide), if_neg (by decide), if_pos (show nI 3 = (3 : Int32) from rfl), if_neg e]
theorem st3_y {nc : Nat} (ha : τ.1 17 8 = nI 3) (e : T i = 59) (hh : τ.1 17 6 = nI nc) : tx < 4 → i < 90 → TxC τ tx T → fX8_step τ (13 + tx) (nI i) = some (su (su τ 17 6 (nI (nc + 1))) 17 8 0, -9) := fun htx hi xC => by
  unfold fX8_step
  rw [rdC (show i < LC (13 + tx) by rw [LC_text htx]; exact hi), xC i hi, ha, if_neg (by decide), if_neg (by decide), if_pos (show nI 3 = (3 : Int32) from rfl), if_pos e]
  unfold fX8_closeColour
  rw [hh, pt_s, pt_s, cl_s, nI_1]
theorem st0 (ha : τ.1 17 8 = nI 0) : tx < 4 → i < 90 → TxC τ tx T → fX8_step τ (13 + tx) (nI i) = if T i = 32 then some (τ, -9) else cl (fX8_openItem τ (T i) (nI i)) (fun σ2 r3 => some (σ2, r3)) := fun htx hi xC => by
  unfold fX8_step
  rw [rdC (show i < LC (13 + tx) by rw [LC_text htx]; exact hi), xC i hi, ha, if_neg (by decide), if_neg (by decide), if_neg (by decide), if_neg (by decide), if_neg (by decide)]
theorem st0_c8 (ha : τ.1 17 8 = nI 0) {w : Nat} (hw : w ≤ 25) (e : T i = nI (97 + w)) (hh : τ.1 17 6 = nI 8) : tx < 4 → i < 90 → TxC τ tx T → fX8_step τ (13 + tx) (nI i) = some (τ, nI i) := fun htx hi xC => by
  rw [st0 ha htx hi xC, e, if_neg (show ¬ nI (97 + w) = (32 : Int32) from nI_nq (b := 32) (by omega) (by omega) (by omega))]
  unfold fX8_openItem
  rw [smallC, cl_s, sm_y hw, if_neg (show ¬ (1 : Int32) = 0 by decide), hh, if_neg (by decide), cl_s]
theorem st0_c (ha : τ.1 17 8 = nI 0) {w nc : Nat} (hw : w ≤ 25) (e : T i = nI (97 + w)) (hh : τ.1 17 6 = nI nc) (h8 : nc < 8) : tx < 4 → i < 90 → TxC τ tx T → fX8_step τ (13 + tx) (nI i) = some (su (su (su τ 18 nc (nI i)) 19 nc (nI 1)) 17 8 1, -9) := fun htx hi xC => by
  rw [st0 ha htx hi xC, e, if_neg (show ¬ nI (97 + w) = (32 : Int32) from nI_nq (b := 32) (by omega) (by omega) (by omega))]
  unfold fX8_openItem
  have hh' : (su τ 18 nc (nI i)).1 17 6 = nI nc := by rw [su_o (by omega)]; exact hh
  rw [smallC, cl_s, sm_y hw, if_neg (show ¬ (1 : Int32) = 0 by decide), hh, if_pos (show nI nc < (8 : Int32) from nI_lt (b := 8) h8 (by omega)), wrC (show nc < LC 18 by show nc < 8; omega), hh', wrC (show nc < LC 19 by show nc < 8; omega), pt_s, cl_s]
  rfl
theorem st0_k (ha : τ.1 17 8 = nI 0) (h32 : ¬ T i = 32) (hs : smB (T i) = 0) (hk : kvB (T i) = -9) : tx < 4 → i < 90 → TxC τ tx T → fX8_step τ (13 + tx) (nI i) = some (τ, nI i) := fun htx hi xC => by
  rw [st0 ha htx hi xC, if_neg h32]
  unfold fX8_openItem
  rw [smallC, cl_s, if_pos hs, kindC, cl_s, if_pos hk, cl_s]
theorem st0_6 (ha : τ.1 17 8 = nI 0) (h32 : ¬ T i = 32) (hs : smB (T i) = 0) {k : Nat} (k6 : k < 6) (hk : kvB (T i) = nI k) (hh : τ.1 17 7 = nI 6) : tx < 4 → i < 90 → TxC τ tx T → fX8_step τ (13 + tx) (nI i) = some (τ, nI i) := fun htx hi xC => by
  rw [st0 ha htx hi xC, if_neg h32]
  unfold fX8_openItem
  rw [smallC, cl_s, if_pos hs, kindC, cl_s, hk, if_neg (nI_nneg (by omega) (by decide)), hh, if_neg (by decide), cl_s]
theorem st0_h (ha : τ.1 17 8 = nI 0) (h32 : ¬ T i = 32) (hs : smB (T i) = 0) {k nh : Nat} (k6 : k < 6) (hk : kvB (T i) = nI k) (hh : τ.1 17 7 = nI nh) (h6 : nh < 6) : tx < 4 → i < 90 → TxC τ tx T → fX8_step τ (13 + tx) (nI i) = some (su (su τ 22 nh (nI k)) 17 8 4, -9) := fun htx hi xC => by
  rw [st0 ha htx hi xC, if_neg h32]
  unfold fX8_openItem
  rw [smallC, cl_s, if_pos hs, kindC, cl_s, hk, if_neg (nI_nneg (by omega) (by decide)), hh, if_pos (show nI nh < (6 : Int32) from nI_lt (b := 6) h6 (by omega)), wrC (show nh < LC 22 by show nh < 6; omega), pt_s, cl_s]
theorem st1 (ha : τ.1 17 8 = nI 1) : tx < 4 → i < 90 → TxC τ tx T → fX8_step τ (13 + tx) (nI i) = cl (fX8_inName τ (13 + tx) (nI i)) (fun σ4 r5 => some (σ4, r5)) := fun htx hi xC => by
  unfold fX8_step
  rw [rdC (show i < LC (13 + tx) by rw [LC_text htx]; exact hi), xC i hi, ha, if_pos (show nI 1 = (1 : Int32) from rfl)]
theorem st1_7 (ha : τ.1 17 8 = nI 1) {w nc : Nat} (hw : w ≤ 25) (e : T i = nI (97 + w)) (hh : τ.1 17 6 = nI nc) (h8 : nc < 8) (hl : τ.1 19 nc = nI 7) : tx < 4 → i < 90 → TxC τ tx T → fX8_step τ (13 + tx) (nI i) = some (τ, nI i) := fun htx hi xC => by
  rw [st1 ha htx hi xC]
  unfold fX8_inName
  rw [rdC (show i < LC (13 + tx) by rw [LC_text htx]; exact hi), xC i hi, smallC, cl_s, e, sm_y hw, if_neg (show ¬ (1 : Int32) = 0 by decide), hh, rdC (show nc < LC 19 by show nc < 8; omega), hl, if_neg (by decide), cl_s]
theorem st1_l (ha : τ.1 17 8 = nI 1) {w nc l : Nat} (hw : w ≤ 25) (e : T i = nI (97 + w)) (hh : τ.1 17 6 = nI nc) (h8 : nc < 8) (hl : τ.1 19 nc = nI l) (l7 : l < 7) : tx < 4 → i < 90 → TxC τ tx T → fX8_step τ (13 + tx) (nI i) = some (su τ 19 nc (nI (l + 1)), -9) := fun htx hi xC => by
  rw [st1 ha htx hi xC]
  unfold fX8_inName
  rw [rdC (show i < LC (13 + tx) by rw [LC_text htx]; exact hi), xC i hi, smallC, cl_s, e, sm_y hw, if_neg (show ¬ (1 : Int32) = 0 by decide), hh, rdC (show nc < LC 19 by show nc < 8; omega), hl, if_pos (show nI l < (7 : Int32) from nI_lt (b := 7) l7 (by omega)), rdC (show nc < LC 19 by show nc < 8; omega), hl, wrC (show nc < LC 19 by show nc < 8; omega), nI_1, cl_s]
theorem st1_t (ha : τ.1 17 8 = nI 1) (hs : smB (T i) = 0) {nc s : Nat} (hh : τ.1 17 6 = nI nc) (h8 : nc < 8) (hb : τ.1 18 nc = nI s) (ht : fX8_isToldAlready τ (13 + tx) = some (τ, 1)) : tx < 4 → i < 90 → TxC τ tx T → fX8_step τ (13 + tx) (nI i) = some (τ, nI s) := fun htx hi xC => by
  rw [st1 ha htx hi xC]
  unfold fX8_inName
  rw [rdC (show i < LC (13 + tx) by rw [LC_text htx]; exact hi), xC i hi, smallC, cl_s, if_pos hs, ht, cl_s, if_neg (show ¬ (1 : Int32) = 0 by decide), hh, rdC (show nc < LC 18 by show nc < 8; omega), hb, cl_s]
theorem st1_f (ha : τ.1 17 8 = nI 1) (hs : smB (T i) = 0) (ht : fX8_isToldAlready τ (13 + tx) = some (τ, 0)) (e : fgB 1 (T i) = 0) : tx < 4 → i < 90 → TxC τ tx T → fX8_step τ (13 + tx) (nI i) = some (τ, nI i) := fun htx hi xC => by
  rw [st1 ha htx hi xC]
  unfold fX8_inName
  rw [rdC (show i < LC (13 + tx) by rw [LC_text htx]; exact hi), xC i hi, smallC, cl_s, if_pos hs, ht, cl_s, if_pos rfl, show fX8_isFigure τ (T i) 1 = _ from figC τ 1 (T i), cl_s, if_pos e, cl_s]
theorem st1_y (ha : τ.1 17 8 = nI 1) (hs : smB (T i) = 0) (ht : fX8_isToldAlready τ (13 + tx) = some (τ, 0)) {nc v : Nat} (e : T i = nI (48 + v)) (h1 : 1 ≤ v) (h9 : v ≤ 9) (hh : τ.1 17 6 = nI nc) (h8 : nc < 8) : tx < 4 → i < 90 → TxC τ tx T → fX8_step τ (13 + tx) (nI i) = some (su (su τ 20 nc (nI v)) 17 8 2, -9) := fun htx hi xC => by
  rw [st1 ha htx hi xC]
  unfold fX8_inName
  rw [rdC (show i < LC (13 + tx) by rw [LC_text htx]; exact hi), xC i hi, smallC, cl_s, if_pos hs, ht, cl_s, if_pos rfl, show fX8_isFigure τ (T i) 1 = _ from figC τ 1 (T i), cl_s, e, fg_y h1 h9, if_neg (show ¬ (1 : Int32) = 0 by decide), hh, wrC (show nc < LC 20 by show nc < 8; omega), m48, pt_s, cl_s]
end CL
