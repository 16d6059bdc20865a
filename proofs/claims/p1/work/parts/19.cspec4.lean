def crN (u : CSt) (i k : Nat) : Int32 := if k = 0 then nI (k_pf u i) else if k = 1 then nI (k_pl u i) else if k = 2 then nI (pcn (tb (k_pw u i)) 64) else if k = 3 then nI (pcn (tb (k_pc u i)) 64) else oI (nthB (tb (k_pc u i)) (k - 4) 64)
def C_row (u : CSt) (x y : Int32) : Int32 := if ixB x (k_cnt u) = false ∨ y < 0 then -1 else crN u x.toNatClampNeg y.toNatClampNeg
theorem lcs_cg {u v : CSt} (h1 : k_fls u = k_fls v) (h2 : k_fr u = k_fr v) : kLC u = kLC v := by
  have e : kcl u = kcl v := by funext a x o; unfold kcl; rw [h1, h2]
  funext p f o
  unfold kLC
  rw [e, h1, h2]
