theorem dX11_init_0 : decode cX11_init 0 = .ok (.aload_n 0, 1) := by decide +kernel
theorem dX11_init_1 : decode cX11_init 1 = .ok (.invokespecial 1, 3) := by decide +kernel
theorem dX11_init_4 : decode cX11_init 4 = .ok (.aload_n 0, 1) := by decide +kernel
theorem dX11_init_5 : decode cX11_init 5 = .ok (.bipush 6, 2) := by decide +kernel
theorem dX11_init_7 : decode cX11_init 7 = .ok (.newarray .int, 2) := by decide +kernel
theorem dX11_init_9 : decode cX11_init 9 = .ok (.putfield 7, 3) := by decide +kernel
theorem dX11_init_12 : decode cX11_init 12 = .ok (.aload_n 0, 1) := by decide +kernel
theorem dX11_init_13 : decode cX11_init 13 = .ok (.sipush 240, 3) := by decide +kernel
theorem dX11_init_16 : decode cX11_init 16 = .ok (.newarray .int, 2) := by decide +kernel
theorem dX11_init_18 : decode cX11_init 18 = .ok (.putfield 13, 3) := by decide +kernel
theorem dX11_init_21 : decode cX11_init 21 = .ok (.aload_n 0, 1) := by decide +kernel
theorem dX11_init_22 : decode cX11_init 22 = .ok (.iconst 4, 1) := by decide +kernel
theorem dX11_init_23 : decode cX11_init 23 = .ok (.newarray .int, 2) := by decide +kernel
theorem dX11_init_25 : decode cX11_init 25 = .ok (.putfield 16, 3) := by decide +kernel
theorem dX11_init_28 : decode cX11_init 28 = .ok (.aload_n 0, 1) := by decide +kernel
theorem dX11_init_29 : decode cX11_init 29 = .ok (.sipush 360, 3) := by decide +kernel
theorem dX11_init_32 : decode cX11_init 32 = .ok (.newarray .int, 2) := by decide +kernel
theorem dX11_init_34 : decode cX11_init 34 = .ok (.putfield 19, 3) := by decide +kernel
theorem dX11_init_37 : decode cX11_init 37 = .ok (.aload_n 0, 1) := by decide +kernel
theorem dX11_init_38 : decode cX11_init 38 = .ok (.bipush 6, 2) := by decide +kernel
theorem dX11_init_40 : decode cX11_init 40 = .ok (.newarray .int, 2) := by decide +kernel
theorem dX11_init_42 : decode cX11_init 42 = .ok (.putfield 22, 3) := by decide +kernel
theorem dX11_init_45 : decode cX11_init 45 = .ok (.aload_n 0, 1) := by decide +kernel
theorem dX11_init_46 : decode cX11_init 46 = .ok (.bipush 6, 2) := by decide +kernel
theorem dX11_init_48 : decode cX11_init 48 = .ok (.newarray .int, 2) := by decide +kernel
theorem dX11_init_50 : decode cX11_init 50 = .ok (.putfield 25, 3) := by decide +kernel
theorem dX11_init_53 : decode cX11_init 53 = .ok (.aload_n 0, 1) := by decide +kernel
theorem dX11_init_54 : decode cX11_init 54 = .ok (.bipush 56, 2) := by decide +kernel
theorem dX11_init_56 : decode cX11_init 56 = .ok (.newarray .int, 2) := by decide +kernel
theorem dX11_init_58 : decode cX11_init 58 = .ok (.putfield 28, 3) := by decide +kernel
theorem dX11_init_61 : decode cX11_init 61 = .ok (.aload_n 0, 1) := by decide +kernel
theorem dX11_init_62 : decode cX11_init 62 = .ok (.bipush 8, 2) := by decide +kernel
theorem dX11_init_64 : decode cX11_init 64 = .ok (.newarray .int, 2) := by decide +kernel
theorem dX11_init_66 : decode cX11_init 66 = .ok (.putfield 31, 3) := by decide +kernel
theorem dX11_init_69 : decode cX11_init 69 = .ok (.aload_n 0, 1) := by decide +kernel
theorem dX11_init_70 : decode cX11_init 70 = .ok (.bipush 8, 2) := by decide +kernel
theorem dX11_init_72 : decode cX11_init 72 = .ok (.newarray .int, 2) := by decide +kernel
theorem dX11_init_74 : decode cX11_init 74 = .ok (.putfield 34, 3) := by decide +kernel
theorem dX11_init_77 : decode cX11_init 77 = .ok (.aload_n 0, 1) := by decide +kernel
theorem dX11_init_78 : decode cX11_init 78 = .ok (.bipush 55, 2) := by decide +kernel
theorem dX11_init_80 : decode cX11_init 80 = .ok (.newarray .int, 2) := by decide +kernel
theorem dX11_init_82 : decode cX11_init 82 = .ok (.putfield 37, 3) := by decide +kernel
theorem dX11_init_85 : decode cX11_init 85 = .ok (.aload_n 0, 1) := by decide +kernel
theorem dX11_init_86 : decode cX11_init 86 = .ok (.bipush 55, 2) := by decide +kernel
theorem dX11_init_88 : decode cX11_init 88 = .ok (.newarray .int, 2) := by decide +kernel
theorem dX11_init_90 : decode cX11_init 90 = .ok (.putfield 40, 3) := by decide +kernel
theorem dX11_init_93 : decode cX11_init 93 = .ok (.aload_n 0, 1) := by decide +kernel
theorem dX11_init_94 : decode cX11_init 94 = .ok (.sipush 2200, 3) := by decide +kernel
theorem dX11_init_97 : decode cX11_init 97 = .ok (.newarray .int, 2) := by decide +kernel
theorem dX11_init_99 : decode cX11_init 99 = .ok (.putfield 43, 3) := by decide +kernel
theorem dX11_init_102 : decode cX11_init 102 = .ok (.aload_n 0, 1) := by decide +kernel
theorem dX11_init_103 : decode cX11_init 103 = .ok (.sipush 6768, 3) := by decide +kernel
theorem dX11_init_106 : decode cX11_init 106 = .ok (.newarray .int, 2) := by decide +kernel
theorem dX11_init_108 : decode cX11_init 108 = .ok (.putfield 46, 3) := by decide +kernel
theorem dX11_init_111 : decode cX11_init 111 = .ok (.aload_n 0, 1) := by decide +kernel
theorem dX11_init_112 : decode cX11_init 112 = .ok (.iconst 3, 1) := by decide +kernel
theorem dX11_init_113 : decode cX11_init 113 = .ok (.newarray .boolean, 2) := by decide +kernel
theorem dX11_init_115 : decode cX11_init 115 = .ok (.putfield 49, 3) := by decide +kernel
theorem dX11_init_118 : decode cX11_init 118 = .ok (.aload_n 0, 1) := by decide +kernel
theorem dX11_init_119 : decode cX11_init 119 = .ok (.lconst 1, 1) := by decide +kernel
theorem dX11_init_120 : decode cX11_init 120 = .ok (.putfield 53, 3) := by decide +kernel
theorem dX11_init_123 : decode cX11_init 123 = .ok (.aload_n 0, 1) := by decide +kernel
theorem dX11_init_124 : decode cX11_init 124 = .ok (.bipush 6, 2) := by decide +kernel
theorem dX11_init_126 : decode cX11_init 126 = .ok (.newarray .int, 2) := by decide +kernel
theorem dX11_init_128 : decode cX11_init 128 = .ok (.putfield 57, 3) := by decide +kernel
theorem dX11_init_131 : decode cX11_init 131 = .ok (.aload_n 0, 1) := by decide +kernel
theorem dX11_init_132 : decode cX11_init 132 = .ok (.bipush 6, 2) := by decide +kernel
theorem dX11_init_134 : decode cX11_init 134 = .ok (.newarray .int, 2) := by decide +kernel
theorem dX11_init_136 : decode cX11_init 136 = .ok (.putfield 60, 3) := by decide +kernel
theorem dX11_init_139 : decode cX11_init 139 = .ok (.aload_n 0, 1) := by decide +kernel
theorem dX11_init_140 : decode cX11_init 140 = .ok (.bipush 6, 2) := by decide +kernel
theorem dX11_init_142 : decode cX11_init 142 = .ok (.newarray .int, 2) := by decide +kernel
theorem dX11_init_144 : decode cX11_init 144 = .ok (.putfield 63, 3) := by decide +kernel
theorem dX11_init_147 : decode cX11_init 147 = .ok (.aload_n 0, 1) := by decide +kernel
theorem dX11_init_148 : decode cX11_init 148 = .ok (.bipush 63, 2) := by decide +kernel
theorem dX11_init_150 : decode cX11_init 150 = .ok (.newarray .int, 2) := by decide +kernel
theorem dX11_init_152 : decode cX11_init 152 = .ok (.putfield 66, 3) := by decide +kernel
theorem dX11_init_155 : decode cX11_init 155 = .ok (.aload_n 0, 1) := by decide +kernel
theorem dX11_init_156 : decode cX11_init 156 = .ok (.bipush 9, 2) := by decide +kernel
theorem dX11_init_158 : decode cX11_init 158 = .ok (.newarray .int, 2) := by decide +kernel
theorem dX11_init_160 : decode cX11_init 160 = .ok (.putfield 69, 3) := by decide +kernel
theorem dX11_init_163 : decode cX11_init 163 = .ok (.aload_n 0, 1) := by decide +kernel
theorem dX11_init_164 : decode cX11_init 164 = .ok (.bipush 9, 2) := by decide +kernel
theorem dX11_init_166 : decode cX11_init 166 = .ok (.newarray .int, 2) := by decide +kernel
theorem dX11_init_168 : decode cX11_init 168 = .ok (.putfield 72, 3) := by decide +kernel
theorem dX11_init_171 : decode cX11_init 171 = .ok (.aload_n 0, 1) := by decide +kernel
theorem dX11_init_172 : decode cX11_init 172 = .ok (.bipush 7, 2) := by decide +kernel
theorem dX11_init_174 : decode cX11_init 174 = .ok (.newarray .int, 2) := by decide +kernel
theorem dX11_init_176 : decode cX11_init 176 = .ok (.putfield 75, 3) := by decide +kernel
theorem dX11_init_179 : decode cX11_init 179 = .ok (.aload_n 0, 1) := by decide +kernel
theorem dX11_init_180 : decode cX11_init 180 = .ok (.bipush 6, 2) := by decide +kernel
theorem dX11_init_182 : decode cX11_init 182 = .ok (.newarray .int, 2) := by decide +kernel
theorem dX11_init_184 : decode cX11_init 184 = .ok (.putfield 78, 3) := by decide +kernel
theorem dX11_init_187 : decode cX11_init 187 = .ok (.aload_n 0, 1) := by decide +kernel
theorem dX11_init_188 : decode cX11_init 188 = .ok (.bipush 6, 2) := by decide +kernel
theorem dX11_init_190 : decode cX11_init 190 = .ok (.newarray .int, 2) := by decide +kernel
theorem dX11_init_192 : decode cX11_init 192 = .ok (.putfield 81, 3) := by decide +kernel
theorem dX11_init_195 : decode cX11_init 195 = .ok (.aload_n 0, 1) := by decide +kernel
theorem dX11_init_196 : decode cX11_init 196 = .ok (.sipush 343, 3) := by decide +kernel
theorem dX11_init_199 : decode cX11_init 199 = .ok (.newarray .int, 2) := by decide +kernel
theorem dX11_init_201 : decode cX11_init 201 = .ok (.putfield 84, 3) := by decide +kernel
theorem dX11_init_204 : decode cX11_init 204 = .ok (.iconst 0, 1) := by decide +kernel
theorem dX11_init_205 : decode cX11_init 205 = .ok (.istore_n 1, 1) := by decide +kernel
theorem dX11_init_206 : decode cX11_init 206 = .ok (.iload_n 1, 1) := by decide +kernel
theorem dX11_init_207 : decode cX11_init 207 = .ok (.bipush 6, 2) := by decide +kernel
theorem dX11_init_209 : decode cX11_init 209 = .ok (.if_icmp .ge 16, 3) := by decide +kernel
theorem dX11_init_212 : decode cX11_init 212 = .ok (.aload_n 0, 1) := by decide +kernel
theorem dX11_init_213 : decode cX11_init 213 = .ok (.getfield 7, 3) := by decide +kernel
theorem dX11_init_216 : decode cX11_init 216 = .ok (.iload_n 1, 1) := by decide +kernel
theorem dX11_init_217 : decode cX11_init 217 = .ok (.iconst (-1), 1) := by decide +kernel
theorem dX11_init_218 : decode cX11_init 218 = .ok (.iastore, 1) := by decide +kernel
theorem dX11_init_219 : decode cX11_init 219 = .ok (.iinc 1 1, 3) := by decide +kernel
theorem dX11_init_222 : decode cX11_init 222 = .ok (.goto (-16), 3) := by decide +kernel
theorem dX11_init_225 : decode cX11_init 225 = .ok (.iconst 0, 1) := by decide +kernel
theorem dX11_init_226 : decode cX11_init 226 = .ok (.istore_n 1, 1) := by decide +kernel
theorem dX11_init_227 : decode cX11_init 227 = .ok (.iload_n 1, 1) := by decide +kernel
theorem dX11_init_228 : decode cX11_init 228 = .ok (.iconst 4, 1) := by decide +kernel
theorem dX11_init_229 : decode cX11_init 229 = .ok (.if_icmp .ge 16, 3) := by decide +kernel
theorem dX11_init_232 : decode cX11_init 232 = .ok (.aload_n 0, 1) := by decide +kernel
theorem dX11_init_233 : decode cX11_init 233 = .ok (.getfield 16, 3) := by decide +kernel
theorem dX11_init_236 : decode cX11_init 236 = .ok (.iload_n 1, 1) := by decide +kernel
theorem dX11_init_237 : decode cX11_init 237 = .ok (.iconst (-1), 1) := by decide +kernel
theorem dX11_init_238 : decode cX11_init 238 = .ok (.iastore, 1) := by decide +kernel
theorem dX11_init_239 : decode cX11_init 239 = .ok (.iinc 1 1, 3) := by decide +kernel
theorem dX11_init_242 : decode cX11_init 242 = .ok (.goto (-15), 3) := by decide +kernel
theorem dX11_init_245 : decode cX11_init 245 = .ok (.return_, 1) := by decide +kernel
def fX11_initL_L206 : Nat → St → Int32 → (St → Int32 → Option (St × Unit)) → Option (St × Unit)
  | 0, _, _, _ => none
  | n + 1, σ1, v2, k => (if 6 ≤ v2 then k σ1 v2 else wr LM σ1 1 v2 (-1) (fun σ3 => fX11_initL_L206 n σ3 (v2 + 1) k))
def fX11_initL_L227 : Nat → St → Int32 → (St → Int32 → Option (St × Unit)) → Option (St × Unit)
  | 0, _, _, _ => none
  | n + 1, σ6, v7, k => (if 4 ≤ v7 then k σ6 v7 else wr LM σ6 3 v7 (-1) (fun σ8 => fX11_initL_L227 n σ8 (v7 + 1) k))
def fX11_initL (σ : St) : Option (St × Unit) := fX11_initL_L206 10000 σ 0 (fun σ4 v5 => fX11_initL_L227 10000 σ4 0 (fun σ9 v10 => some (σ9, ())))
set_option maxHeartbeats 4000000 in
set_option maxRecDepth 100000 in
theorem wX11_init {p : Program} {l : Launch} {e : Env} {R : Room} {s : State} {m : MethodId} {args : Array Value} {below : List Frame} {meth : Method} {c : Code} {H : Heap} {locs : List Loc} {cells slots : Nat} {Q : State → Prop} {A : Nat → Prop} {H0 : Heap} {g : GG} {σ σ' : St} {r : Unit} {ls : Array Slot} (C : CallFix p m c cX11_init 2 s args gtbl RX11) (hK : KS g s) (hE : fX11_initL σ = some (σ', r)) (hQ : ∀ {σ : St} {H : Heap} {locs : List Loc} {pc : Nat} {ls : Array Slot}, HW 25 entM g A H0 H locs σ → some (σ, ()) = some (σ', r) → decode cX11_init pc = .ok (.return_, 1) → W p l e R s m args below meth c H locs cells slots Q (F0 m pc ls [])) (hs : HW 25 entM g A H0 H locs σ) (hl : lv_has ls 2 [(0, .ref (g.2.1 0))]) : W p l e R s m args below meth c H locs cells slots Q (F0 m 204 ls []) := by
  have hx := C.1
  have hb := C.2.1
  unfold fX11_initL at hE
  refine lv_iconst (v := 0) hx hb dX11_init_204 (by decide) ?_
  refine lv_istore_n (lv' := [(1, .int 0), (0, .ref (g.2.1 0))]) hx hb dX11_init_205 rfl hl (by decide) rfl (fun ls hl => ?_)
  have hL206 : ∀ (n : Nat) (σ1 : St) (v2 : Int32) (k : St → Int32 → Option (St × Unit)), fX11_initL_L206 n σ1 v2 k = some (σ', r) → (∀ (σ1 : St) (v2 : Int32) (H : Heap) (locs : List Loc) (ls : Array Slot), HW 25 entM g A H0 H locs σ1 → lv_has ls 2 [(0, .ref (g.2.1 0)), (1, .int v2)] → k σ1 v2 = some (σ', r) → W p l e R s m args below meth c H locs cells slots Q (F0 m 225 ls [])) → ∀ (H : Heap) (locs : List Loc) (ls : Array Slot), HW 25 entM g A H0 H locs σ1 → lv_has ls 2 [(0, .ref (g.2.1 0)), (1, .int v2)] → W p l e R s m args below meth c H locs cells slots Q (F0 m 206 ls []) := by
    intro n
    induction n with
    | zero =>
      intro σ1 v2 k hE
      rw [fX11_initL_L206] at hE
      exact no_e hE
    | succ n ih =>
      intro σ1 v2 k hE hk H locs ls hs hl
      rw [fX11_initL_L206] at hE
      refine lv_iload_n hx hb dX11_init_206 rfl (lv_at hl 1 rfl) ?_
      refine lv_bipush (v := 6) hx hb dX11_init_207 (by decide) ?_
      refine lv_icmp_ge (tgt := 225) hx hb dX11_init_209 (by decide) (fun hc => ?_) (fun hc => ?_)
      · have hE := if_t hc hE
        exact hk σ1 v2 _ _ _ hs (lv_sub hl [0, 1] rfl) hE
      · have hE := if_f hc hE
        refine lv_aload_n hx hb dX11_init_212 rfl (lv_at hl 0 rfl) ?_
        refine gf_X11_7_0 C hK hs dX11_init_213 ?_
        refine lv_iload_n hx hb dX11_init_216 rfl (lv_at hl 1 rfl) ?_
        refine lv_iconst (v := (-1)) hx hb dX11_init_217 (by decide) ?_
        obtain ⟨hi, σ3, eσ3, hE⟩ := wr_w hE
        refine y_ast layM C hK hs hi eσ3 dX11_init_218 (fun H locs hs => ?_)
        refine lv_iinc (v := v2 + 1) (lv' := [(1, .int (v2 + 1)), (0, .ref (g.2.1 0))]) hx hb dX11_init_219 hl (k := 1) rfl rfl (by decide) rfl (fun ls hl => ?_)
        refine lv_goto (tgt := 206) hx hb dX11_init_222 (by decide) ?_
        exact ih _ _ _ hE hk _ _ _ hs (lv_sub hl [1, 0] rfl)
  refine hL206 _ _ _ _ hE (fun σ4 v5 H locs ls hs hl hE => ?_) H locs ls hs (lv_sub hl [1, 0] rfl)
  refine lv_iconst (v := 0) hx hb dX11_init_225 (by decide) ?_
  refine lv_istore_n (lv' := [(1, .int 0), (0, .ref (g.2.1 0))]) hx hb dX11_init_226 rfl hl (by decide) rfl (fun ls hl => ?_)
  have hL227 : ∀ (n : Nat) (σ6 : St) (v7 : Int32) (k : St → Int32 → Option (St × Unit)), fX11_initL_L227 n σ6 v7 k = some (σ', r) → (∀ (σ6 : St) (v7 : Int32) (H : Heap) (locs : List Loc) (ls : Array Slot), HW 25 entM g A H0 H locs σ6 → lv_has ls 2 [(0, .ref (g.2.1 0)), (1, .int v7)] → k σ6 v7 = some (σ', r) → W p l e R s m args below meth c H locs cells slots Q (F0 m 245 ls [])) → ∀ (H : Heap) (locs : List Loc) (ls : Array Slot), HW 25 entM g A H0 H locs σ6 → lv_has ls 2 [(0, .ref (g.2.1 0)), (1, .int v7)] → W p l e R s m args below meth c H locs cells slots Q (F0 m 227 ls []) := by
    intro n
    induction n with
    | zero =>
      intro σ6 v7 k hE
      rw [fX11_initL_L227] at hE
      exact no_e hE
    | succ n ih =>
      intro σ6 v7 k hE hk H locs ls hs hl
      rw [fX11_initL_L227] at hE
      refine lv_iload_n hx hb dX11_init_227 rfl (lv_at hl 1 rfl) ?_
      refine lv_iconst (v := 4) hx hb dX11_init_228 (by decide) ?_
      refine lv_icmp_ge (tgt := 245) hx hb dX11_init_229 (by decide) (fun hc => ?_) (fun hc => ?_)
      · have hE := if_t hc hE
        exact hk σ6 v7 _ _ _ hs (lv_sub hl [0, 1] rfl) hE
      · have hE := if_f hc hE
        refine lv_aload_n hx hb dX11_init_232 rfl (lv_at hl 0 rfl) ?_
        refine gf_X11_16_0 C hK hs dX11_init_233 ?_
        refine lv_iload_n hx hb dX11_init_236 rfl (lv_at hl 1 rfl) ?_
        refine lv_iconst (v := (-1)) hx hb dX11_init_237 (by decide) ?_
        obtain ⟨hi, σ8, eσ8, hE⟩ := wr_w hE
        refine y_ast layM C hK hs hi eσ8 dX11_init_238 (fun H locs hs => ?_)
        refine lv_iinc (v := v7 + 1) (lv' := [(1, .int (v7 + 1)), (0, .ref (g.2.1 0))]) hx hb dX11_init_239 hl (k := 1) rfl rfl (by decide) rfl (fun ls hl => ?_)
        refine lv_goto (tgt := 227) hx hb dX11_init_242 (by decide) ?_
        exact ih _ _ _ hE hk _ _ _ hs (lv_sub hl [1, 0] rfl)
  refine hL227 _ _ _ _ hE (fun σ9 v10 H locs ls hs hl hE => ?_) H locs ls hs (lv_sub hl [1, 0] rfl)
  exact hQ hs hE dX11_init_245
def s00 : St := (fun _ _ => 0, fun k j => match k, j with
  | 0, 19 => 1
  | _, _ => 0)
def s0M : St := (fun k j => match k with
  | 1 => if j < 6 then -1 else 0
  | 3 => if j < 4 then -1 else 0
  | _ => 0, fun k j => match k, j with
  | 0, 19 => 1
  | _, _ => 0)
theorem iL206 : ∀ (m i fuel : Nat) (σ : St) (k : St → Int32 → Option (St × Unit)), i + m = 6 → m < fuel → fX11_initL_L206 fuel σ (nI i) k = k (sc σ 1 (fun j => if i ≤ j ∧ j < 6 then (-1) else σ.1 1 j)) (nI 6) := by
  intro m
  induction m with
  | zero =>
    intro i fuel σ k hi hf
    match fuel, hf with
    | f + 1, _ =>
      rw [fX11_initL_L206, if_pos (show (6 : Int32) ≤ nI i from nI_le (a := 6) (b := i) (by omega) (by omega)), show i = 6 by omega]
      congr 1
      refine st_ext (fun a j => ?_) (fun _ _ => rfl)
      rw [sc_11]
      by_cases ha : a = 1
      · rw [if_pos ha, if_neg (by omega), ha]
      · rw [if_neg ha]
  | succ m ih =>
    intro i fuel σ k hi hf
    match fuel, hf with
    | f + 1, hf =>
      rw [fX11_initL_L206, if_neg (show ¬ (6 : Int32) ≤ nI i from nI_ge (a := i) (b := 6) (by omega) (by omega))]
      unfold wr
      rw [if_pos (inb_nI (show i < LM 1 by show i < 6; omega) (show LM 1 < 2 ^ 31 by decide)), nI_clamp (by omega), nI_1]
      show fX11_initL_L206 f (su σ 1 i (-1)) (nI (i + 1)) k = _
      rw [ih (i + 1) f _ k (by omega) (by omega)]
      congr 1
      refine st_ext (fun a j => ?_) (fun _ _ => rfl)
      rw [sc_11, sc_11, su_11, su_11]
      by_cases ha : a = 1
      · rw [if_pos ha, if_pos ha]
        by_cases hj : j = i
        · subst hj
          rw [if_neg (by omega), if_pos (by omega), if_pos (by omega)]
        · by_cases h2 : i + 1 ≤ j ∧ j < 6
          · rw [if_pos h2, if_pos (by omega)]
          · rw [if_neg h2, if_neg (by omega), if_neg (by omega)]
      · rw [if_neg ha, if_neg ha, if_neg (by omega)]
theorem iL227 : ∀ (m i fuel : Nat) (σ : St) (k : St → Int32 → Option (St × Unit)), i + m = 4 → m < fuel → fX11_initL_L227 fuel σ (nI i) k = k (sc σ 3 (fun j => if i ≤ j ∧ j < 4 then (-1) else σ.1 3 j)) (nI 4) := by
  intro m
  induction m with
  | zero =>
    intro i fuel σ k hi hf
    match fuel, hf with
    | f + 1, _ =>
      rw [fX11_initL_L227, if_pos (show (4 : Int32) ≤ nI i from nI_le (a := 4) (b := i) (by omega) (by omega)), show i = 4 by omega]
      congr 1
      refine st_ext (fun a j => ?_) (fun _ _ => rfl)
      rw [sc_11]
      by_cases ha : a = 3
      · rw [if_pos ha, if_neg (by omega), ha]
      · rw [if_neg ha]
  | succ m ih =>
    intro i fuel σ k hi hf
    match fuel, hf with
    | f + 1, hf =>
      rw [fX11_initL_L227, if_neg (show ¬ (4 : Int32) ≤ nI i from nI_ge (a := i) (b := 4) (by omega) (by omega))]
      unfold wr
      rw [if_pos (inb_nI (show i < LM 3 by show i < 4; omega) (show LM 3 < 2 ^ 31 by decide)), nI_clamp (by omega), nI_1]
      show fX11_initL_L227 f (su σ 3 i (-1)) (nI (i + 1)) k = _
      rw [ih (i + 1) f _ k (by omega) (by omega)]
      congr 1
      refine st_ext (fun a j => ?_) (fun _ _ => rfl)
      rw [sc_11, sc_11, su_11, su_11]
      by_cases ha : a = 3
      · rw [if_pos ha, if_pos ha]
        by_cases hj : j = i
        · subst hj
          rw [if_neg (by omega), if_pos (by omega), if_pos (by omega)]
        · by_cases h2 : i + 1 ≤ j ∧ j < 4
          · rw [if_pos h2, if_pos (by omega)]
          · rw [if_neg h2, if_neg (by omega), if_neg (by omega)]
      · rw [if_neg ha, if_neg ha, if_neg (by omega)]
theorem init_ev : fX11_initL s00 = some (s0M, ()) := by
  unfold fX11_initL
  show fX11_initL_L206 10000 s00 (nI 0) _ = _
  rw [iL206 6 0 10000 s00 _ (by omega) (by omega)]
  show fX11_initL_L227 10000 _ (nI 0) _ = _
  rw [iL227 4 0 10000 _ _ (by omega) (by omega)]
  congr 2
  refine st_ext (fun a j => ?_) (fun _ _ => rfl)
  rw [sc_11, sc_11]
  by_cases h3 : a = 3
  · subst h3
    rw [if_pos rfl]
    show _ = if j < 4 then -1 else 0
    by_cases hj : j < 4
    · rw [if_pos (by omega), if_pos hj]
    · rw [if_neg (by omega), if_neg hj, if_neg (by omega)]
      rfl
  · rw [if_neg h3]
    by_cases h1 : a = 1
    · subst h1
      rw [sc_11, if_pos rfl]
      show _ = if j < 6 then -1 else 0
      by_cases hj : j < 6
      · rw [if_pos (by omega), if_pos hj]
      · rw [if_neg (by omega), if_neg hj]
        rfl
    · rw [sc_11, if_neg h1]
      show (0 : Int32) = _
      unfold s0M
      match a, h1, h3 with
      | 0, _, _ => rfl
      | 1, h1, _ => exact absurd rfl h1
      | 2, _, _ => rfl
      | 3, _, h3 => exact absurd rfl h3
      | a + 4, _, _ => rfl
