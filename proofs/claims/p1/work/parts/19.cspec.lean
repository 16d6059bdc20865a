def liqB (x : Int32) : Bool := decide (¬ x < nI 1 ∧ ¬ nI 16 ≤ x)
/-- the valve that fails, as a long -/
def kfl (f : Nat) : Int64 := if f = 0 then 0 else bt (f - 1)
/-- the valves that let through in failure f -/
def kl (u : CSt) (f : Nat) : Int64 := ((k_opn u &&& (kfl f ^^^ (-1))) ||| ((kfl f &&& (k_opn u ^^^ (-1))) &&& (k_dbl u ^^^ (-1)))) ||| (k_uns u &&& ((k_dbl u &&& (k_opn u ^^^ (-1))) ^^^ (-1)))
theorem kl_cg {u v : CSt} {f : Nat} (h1 : k_opn u = k_opn v) (h2 : k_uns u = k_uns v) (h3 : k_dbl u = k_dbl v) : kl u f = kl v f := by unfold kl; rw [h1, h2, h3]
def bfr (g : Nat → Int32) (a b : Nat) : Nat → Int32 := va_up (va_up g a (g a ||| b32 b)) b ((va_up g a (g a ||| b32 b)) b ||| b32 a)
def k_addS (u : CSt) (a : Nat) : CSt := k_s_fal (k_s_ends (k_s_src (k_s_lev (k_s_nS u (k_nS u + 1)) (va_up (k_lev u) (k_nS u) 0)) (va_up (k_src u) a (k_src u a ||| bt (k_nS u)))) (va_up (k_ends u) (k_nS u) 0)) (va_up (k_fal u) (k_nS u) 0)
/-- what measure makes of 'falls' -/
def kms (u : CSt) (x : Nat) : Nat → Int64 :=
  va_up (va_up (k_fal u) (k_e1 u x) (wth (k_fal u (k_e1 u x)) x (decide (k_lev u (k_e2 u x) ≤ k_lev u (k_e1 u x))))) (k_e2 u x)
    (wth ((va_up (k_fal u) (k_e1 u x) (wth (k_fal u (k_e1 u x)) x (decide (k_lev u (k_e2 u x) ≤ k_lev u (k_e1 u x))))) (k_e2 u x)) x (decide (k_lev u (k_e1 u x) ≤ k_lev u (k_e2 u x))))
