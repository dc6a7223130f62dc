theorem jn0 {β : Type} {K : Option β} {F : Option β → Option β} {r : β} {P : Prop} (h : jn K F = some r) (c : ∀ k : Option β, F k = some r → (k = some r → K = some r) → P) : P := c K h (fun h => h)
theorem sw_n {x c : Int32} (v : Int) (h : ¬ x = c) (hv : c.toInt = v) : ¬ x.toInt = v := fun e => h (Int32.toInt_inj.mp (e.trans hv.symm))
theorem sw_lc {a o : Int} {r : List (Int × Int)} {d k off : Int} (h : ¬ k = a) (t : Op.lookupswitch.offset r d k = off) : Op.lookupswitch.offset ((a, o) :: r) d k = off := by
  rw [Op.lookupswitch.offset_cons, if_neg (fun e => h e.symm)]
  exact t
