abbrev MSt : Type := (Nat → Nat) × (Nat → Int64) × (Nat) × (Nat → Nat) × (Nat → Nat) × (Nat → Nat) × (Nat → Bool) × (Nat → Bool) × (Nat) × (Nat → Bool) × (Nat) × (Nat → Nat) × (Nat → Nat) × (Nat → Int64) × (Nat → Int64) × (Nat → Nat) × (Bool) × (Nat) × (Nat) × (Nat → Bool)
abbrev m_liq (u : MSt) : Nat → Nat := u.1
abbrev m_lev (u : MSt) : Nat → Int64 := u.2.1
abbrev m_nS (u : MSt) : Nat := u.2.2.1
abbrev m_fa (u : MSt) : Nat → Nat := u.2.2.2.1
abbrev m_fb (u : MSt) : Nat → Nat := u.2.2.2.2.1
abbrev m_seat (u : MSt) : Nat → Nat := u.2.2.2.2.2.1
abbrev m_op (u : MSt) : Nat → Bool := u.2.2.2.2.2.2.1
abbrev m_un (u : MSt) : Nat → Bool := u.2.2.2.2.2.2.2.1
abbrev m_nV (u : MSt) : Nat := u.2.2.2.2.2.2.2.2.1
abbrev m_may (u : MSt) : Nat → Bool := u.2.2.2.2.2.2.2.2.2.1
abbrev m_nR (u : MSt) : Nat := u.2.2.2.2.2.2.2.2.2.2.1
abbrev m_rf (u : MSt) : Nat → Nat := u.2.2.2.2.2.2.2.2.2.2.2.1
abbrev m_rl (u : MSt) : Nat → Nat := u.2.2.2.2.2.2.2.2.2.2.2.2.1
abbrev m_rw (u : MSt) : Nat → Int64 := u.2.2.2.2.2.2.2.2.2.2.2.2.2.1
abbrev m_rc (u : MSt) : Nat → Int64 := u.2.2.2.2.2.2.2.2.2.2.2.2.2.2.1
abbrev m_cul (u : MSt) : Nat → Nat := u.2.2.2.2.2.2.2.2.2.2.2.2.2.2.2.1
abbrev m_gu (u : MSt) : Bool := u.2.2.2.2.2.2.2.2.2.2.2.2.2.2.2.2.1
abbrev m_te (u : MSt) : Nat := u.2.2.2.2.2.2.2.2.2.2.2.2.2.2.2.2.2.1
abbrev m_th (u : MSt) : Nat := u.2.2.2.2.2.2.2.2.2.2.2.2.2.2.2.2.2.2.1
abbrev m_wet (u : MSt) : Nat → Bool := u.2.2.2.2.2.2.2.2.2.2.2.2.2.2.2.2.2.2.2
abbrev m_s_liq (u : MSt) (x : Nat → Nat) : MSt := (x, u.2.1, u.2.2.1, u.2.2.2.1, u.2.2.2.2.1, u.2.2.2.2.2.1, u.2.2.2.2.2.2.1, u.2.2.2.2.2.2.2.1, u.2.2.2.2.2.2.2.2.1, u.2.2.2.2.2.2.2.2.2.1, u.2.2.2.2.2.2.2.2.2.2.1, u.2.2.2.2.2.2.2.2.2.2.2.1, u.2.2.2.2.2.2.2.2.2.2.2.2.1, u.2.2.2.2.2.2.2.2.2.2.2.2.2.1, u.2.2.2.2.2.2.2.2.2.2.2.2.2.2.1, u.2.2.2.2.2.2.2.2.2.2.2.2.2.2.2.1, u.2.2.2.2.2.2.2.2.2.2.2.2.2.2.2.2.1, u.2.2.2.2.2.2.2.2.2.2.2.2.2.2.2.2.2.1, u.2.2.2.2.2.2.2.2.2.2.2.2.2.2.2.2.2.2.1, u.2.2.2.2.2.2.2.2.2.2.2.2.2.2.2.2.2.2.2)
abbrev m_s_lev (u : MSt) (x : Nat → Int64) : MSt := (u.1, x, u.2.2.1, u.2.2.2.1, u.2.2.2.2.1, u.2.2.2.2.2.1, u.2.2.2.2.2.2.1, u.2.2.2.2.2.2.2.1, u.2.2.2.2.2.2.2.2.1, u.2.2.2.2.2.2.2.2.2.1, u.2.2.2.2.2.2.2.2.2.2.1, u.2.2.2.2.2.2.2.2.2.2.2.1, u.2.2.2.2.2.2.2.2.2.2.2.2.1, u.2.2.2.2.2.2.2.2.2.2.2.2.2.1, u.2.2.2.2.2.2.2.2.2.2.2.2.2.2.1, u.2.2.2.2.2.2.2.2.2.2.2.2.2.2.2.1, u.2.2.2.2.2.2.2.2.2.2.2.2.2.2.2.2.1, u.2.2.2.2.2.2.2.2.2.2.2.2.2.2.2.2.2.1, u.2.2.2.2.2.2.2.2.2.2.2.2.2.2.2.2.2.2.1, u.2.2.2.2.2.2.2.2.2.2.2.2.2.2.2.2.2.2.2)
abbrev m_s_nS (u : MSt) (x : Nat) : MSt := (u.1, u.2.1, x, u.2.2.2.1, u.2.2.2.2.1, u.2.2.2.2.2.1, u.2.2.2.2.2.2.1, u.2.2.2.2.2.2.2.1, u.2.2.2.2.2.2.2.2.1, u.2.2.2.2.2.2.2.2.2.1, u.2.2.2.2.2.2.2.2.2.2.1, u.2.2.2.2.2.2.2.2.2.2.2.1, u.2.2.2.2.2.2.2.2.2.2.2.2.1, u.2.2.2.2.2.2.2.2.2.2.2.2.2.1, u.2.2.2.2.2.2.2.2.2.2.2.2.2.2.1, u.2.2.2.2.2.2.2.2.2.2.2.2.2.2.2.1, u.2.2.2.2.2.2.2.2.2.2.2.2.2.2.2.2.1, u.2.2.2.2.2.2.2.2.2.2.2.2.2.2.2.2.2.1, u.2.2.2.2.2.2.2.2.2.2.2.2.2.2.2.2.2.2.1, u.2.2.2.2.2.2.2.2.2.2.2.2.2.2.2.2.2.2.2)
abbrev m_s_fa (u : MSt) (x : Nat → Nat) : MSt := (u.1, u.2.1, u.2.2.1, x, u.2.2.2.2.1, u.2.2.2.2.2.1, u.2.2.2.2.2.2.1, u.2.2.2.2.2.2.2.1, u.2.2.2.2.2.2.2.2.1, u.2.2.2.2.2.2.2.2.2.1, u.2.2.2.2.2.2.2.2.2.2.1, u.2.2.2.2.2.2.2.2.2.2.2.1, u.2.2.2.2.2.2.2.2.2.2.2.2.1, u.2.2.2.2.2.2.2.2.2.2.2.2.2.1, u.2.2.2.2.2.2.2.2.2.2.2.2.2.2.1, u.2.2.2.2.2.2.2.2.2.2.2.2.2.2.2.1, u.2.2.2.2.2.2.2.2.2.2.2.2.2.2.2.2.1, u.2.2.2.2.2.2.2.2.2.2.2.2.2.2.2.2.2.1, u.2.2.2.2.2.2.2.2.2.2.2.2.2.2.2.2.2.2.1, u.2.2.2.2.2.2.2.2.2.2.2.2.2.2.2.2.2.2.2)
abbrev m_s_fb (u : MSt) (x : Nat → Nat) : MSt := (u.1, u.2.1, u.2.2.1, u.2.2.2.1, x, u.2.2.2.2.2.1, u.2.2.2.2.2.2.1, u.2.2.2.2.2.2.2.1, u.2.2.2.2.2.2.2.2.1, u.2.2.2.2.2.2.2.2.2.1, u.2.2.2.2.2.2.2.2.2.2.1, u.2.2.2.2.2.2.2.2.2.2.2.1, u.2.2.2.2.2.2.2.2.2.2.2.2.1, u.2.2.2.2.2.2.2.2.2.2.2.2.2.1, u.2.2.2.2.2.2.2.2.2.2.2.2.2.2.1, u.2.2.2.2.2.2.2.2.2.2.2.2.2.2.2.1, u.2.2.2.2.2.2.2.2.2.2.2.2.2.2.2.2.1, u.2.2.2.2.2.2.2.2.2.2.2.2.2.2.2.2.2.1, u.2.2.2.2.2.2.2.2.2.2.2.2.2.2.2.2.2.2.1, u.2.2.2.2.2.2.2.2.2.2.2.2.2.2.2.2.2.2.2)
abbrev m_s_seat (u : MSt) (x : Nat → Nat) : MSt := (u.1, u.2.1, u.2.2.1, u.2.2.2.1, u.2.2.2.2.1, x, u.2.2.2.2.2.2.1, u.2.2.2.2.2.2.2.1, u.2.2.2.2.2.2.2.2.1, u.2.2.2.2.2.2.2.2.2.1, u.2.2.2.2.2.2.2.2.2.2.1, u.2.2.2.2.2.2.2.2.2.2.2.1, u.2.2.2.2.2.2.2.2.2.2.2.2.1, u.2.2.2.2.2.2.2.2.2.2.2.2.2.1, u.2.2.2.2.2.2.2.2.2.2.2.2.2.2.1, u.2.2.2.2.2.2.2.2.2.2.2.2.2.2.2.1, u.2.2.2.2.2.2.2.2.2.2.2.2.2.2.2.2.1, u.2.2.2.2.2.2.2.2.2.2.2.2.2.2.2.2.2.1, u.2.2.2.2.2.2.2.2.2.2.2.2.2.2.2.2.2.2.1, u.2.2.2.2.2.2.2.2.2.2.2.2.2.2.2.2.2.2.2)
abbrev m_s_op (u : MSt) (x : Nat → Bool) : MSt := (u.1, u.2.1, u.2.2.1, u.2.2.2.1, u.2.2.2.2.1, u.2.2.2.2.2.1, x, u.2.2.2.2.2.2.2.1, u.2.2.2.2.2.2.2.2.1, u.2.2.2.2.2.2.2.2.2.1, u.2.2.2.2.2.2.2.2.2.2.1, u.2.2.2.2.2.2.2.2.2.2.2.1, u.2.2.2.2.2.2.2.2.2.2.2.2.1, u.2.2.2.2.2.2.2.2.2.2.2.2.2.1, u.2.2.2.2.2.2.2.2.2.2.2.2.2.2.1, u.2.2.2.2.2.2.2.2.2.2.2.2.2.2.2.1, u.2.2.2.2.2.2.2.2.2.2.2.2.2.2.2.2.1, u.2.2.2.2.2.2.2.2.2.2.2.2.2.2.2.2.2.1, u.2.2.2.2.2.2.2.2.2.2.2.2.2.2.2.2.2.2.1, u.2.2.2.2.2.2.2.2.2.2.2.2.2.2.2.2.2.2.2)
abbrev m_s_un (u : MSt) (x : Nat → Bool) : MSt := (u.1, u.2.1, u.2.2.1, u.2.2.2.1, u.2.2.2.2.1, u.2.2.2.2.2.1, u.2.2.2.2.2.2.1, x, u.2.2.2.2.2.2.2.2.1, u.2.2.2.2.2.2.2.2.2.1, u.2.2.2.2.2.2.2.2.2.2.1, u.2.2.2.2.2.2.2.2.2.2.2.1, u.2.2.2.2.2.2.2.2.2.2.2.2.1, u.2.2.2.2.2.2.2.2.2.2.2.2.2.1, u.2.2.2.2.2.2.2.2.2.2.2.2.2.2.1, u.2.2.2.2.2.2.2.2.2.2.2.2.2.2.2.1, u.2.2.2.2.2.2.2.2.2.2.2.2.2.2.2.2.1, u.2.2.2.2.2.2.2.2.2.2.2.2.2.2.2.2.2.1, u.2.2.2.2.2.2.2.2.2.2.2.2.2.2.2.2.2.2.1, u.2.2.2.2.2.2.2.2.2.2.2.2.2.2.2.2.2.2.2)
abbrev m_s_nV (u : MSt) (x : Nat) : MSt := (u.1, u.2.1, u.2.2.1, u.2.2.2.1, u.2.2.2.2.1, u.2.2.2.2.2.1, u.2.2.2.2.2.2.1, u.2.2.2.2.2.2.2.1, x, u.2.2.2.2.2.2.2.2.2.1, u.2.2.2.2.2.2.2.2.2.2.1, u.2.2.2.2.2.2.2.2.2.2.2.1, u.2.2.2.2.2.2.2.2.2.2.2.2.1, u.2.2.2.2.2.2.2.2.2.2.2.2.2.1, u.2.2.2.2.2.2.2.2.2.2.2.2.2.2.1, u.2.2.2.2.2.2.2.2.2.2.2.2.2.2.2.1, u.2.2.2.2.2.2.2.2.2.2.2.2.2.2.2.2.1, u.2.2.2.2.2.2.2.2.2.2.2.2.2.2.2.2.2.1, u.2.2.2.2.2.2.2.2.2.2.2.2.2.2.2.2.2.2.1, u.2.2.2.2.2.2.2.2.2.2.2.2.2.2.2.2.2.2.2)
abbrev m_s_may (u : MSt) (x : Nat → Bool) : MSt := (u.1, u.2.1, u.2.2.1, u.2.2.2.1, u.2.2.2.2.1, u.2.2.2.2.2.1, u.2.2.2.2.2.2.1, u.2.2.2.2.2.2.2.1, u.2.2.2.2.2.2.2.2.1, x, u.2.2.2.2.2.2.2.2.2.2.1, u.2.2.2.2.2.2.2.2.2.2.2.1, u.2.2.2.2.2.2.2.2.2.2.2.2.1, u.2.2.2.2.2.2.2.2.2.2.2.2.2.1, u.2.2.2.2.2.2.2.2.2.2.2.2.2.2.1, u.2.2.2.2.2.2.2.2.2.2.2.2.2.2.2.1, u.2.2.2.2.2.2.2.2.2.2.2.2.2.2.2.2.1, u.2.2.2.2.2.2.2.2.2.2.2.2.2.2.2.2.2.1, u.2.2.2.2.2.2.2.2.2.2.2.2.2.2.2.2.2.2.1, u.2.2.2.2.2.2.2.2.2.2.2.2.2.2.2.2.2.2.2)
abbrev m_s_nR (u : MSt) (x : Nat) : MSt := (u.1, u.2.1, u.2.2.1, u.2.2.2.1, u.2.2.2.2.1, u.2.2.2.2.2.1, u.2.2.2.2.2.2.1, u.2.2.2.2.2.2.2.1, u.2.2.2.2.2.2.2.2.1, u.2.2.2.2.2.2.2.2.2.1, x, u.2.2.2.2.2.2.2.2.2.2.2.1, u.2.2.2.2.2.2.2.2.2.2.2.2.1, u.2.2.2.2.2.2.2.2.2.2.2.2.2.1, u.2.2.2.2.2.2.2.2.2.2.2.2.2.2.1, u.2.2.2.2.2.2.2.2.2.2.2.2.2.2.2.1, u.2.2.2.2.2.2.2.2.2.2.2.2.2.2.2.2.1, u.2.2.2.2.2.2.2.2.2.2.2.2.2.2.2.2.2.1, u.2.2.2.2.2.2.2.2.2.2.2.2.2.2.2.2.2.2.1, u.2.2.2.2.2.2.2.2.2.2.2.2.2.2.2.2.2.2.2)
abbrev m_s_rf (u : MSt) (x : Nat → Nat) : MSt := (u.1, u.2.1, u.2.2.1, u.2.2.2.1, u.2.2.2.2.1, u.2.2.2.2.2.1, u.2.2.2.2.2.2.1, u.2.2.2.2.2.2.2.1, u.2.2.2.2.2.2.2.2.1, u.2.2.2.2.2.2.2.2.2.1, u.2.2.2.2.2.2.2.2.2.2.1, x, u.2.2.2.2.2.2.2.2.2.2.2.2.1, u.2.2.2.2.2.2.2.2.2.2.2.2.2.1, u.2.2.2.2.2.2.2.2.2.2.2.2.2.2.1, u.2.2.2.2.2.2.2.2.2.2.2.2.2.2.2.1, u.2.2.2.2.2.2.2.2.2.2.2.2.2.2.2.2.1, u.2.2.2.2.2.2.2.2.2.2.2.2.2.2.2.2.2.1, u.2.2.2.2.2.2.2.2.2.2.2.2.2.2.2.2.2.2.1, u.2.2.2.2.2.2.2.2.2.2.2.2.2.2.2.2.2.2.2)
abbrev m_s_rl (u : MSt) (x : Nat → Nat) : MSt := (u.1, u.2.1, u.2.2.1, u.2.2.2.1, u.2.2.2.2.1, u.2.2.2.2.2.1, u.2.2.2.2.2.2.1, u.2.2.2.2.2.2.2.1, u.2.2.2.2.2.2.2.2.1, u.2.2.2.2.2.2.2.2.2.1, u.2.2.2.2.2.2.2.2.2.2.1, u.2.2.2.2.2.2.2.2.2.2.2.1, x, u.2.2.2.2.2.2.2.2.2.2.2.2.2.1, u.2.2.2.2.2.2.2.2.2.2.2.2.2.2.1, u.2.2.2.2.2.2.2.2.2.2.2.2.2.2.2.1, u.2.2.2.2.2.2.2.2.2.2.2.2.2.2.2.2.1, u.2.2.2.2.2.2.2.2.2.2.2.2.2.2.2.2.2.1, u.2.2.2.2.2.2.2.2.2.2.2.2.2.2.2.2.2.2.1, u.2.2.2.2.2.2.2.2.2.2.2.2.2.2.2.2.2.2.2)
abbrev m_s_rw (u : MSt) (x : Nat → Int64) : MSt := (u.1, u.2.1, u.2.2.1, u.2.2.2.1, u.2.2.2.2.1, u.2.2.2.2.2.1, u.2.2.2.2.2.2.1, u.2.2.2.2.2.2.2.1, u.2.2.2.2.2.2.2.2.1, u.2.2.2.2.2.2.2.2.2.1, u.2.2.2.2.2.2.2.2.2.2.1, u.2.2.2.2.2.2.2.2.2.2.2.1, u.2.2.2.2.2.2.2.2.2.2.2.2.1, x, u.2.2.2.2.2.2.2.2.2.2.2.2.2.2.1, u.2.2.2.2.2.2.2.2.2.2.2.2.2.2.2.1, u.2.2.2.2.2.2.2.2.2.2.2.2.2.2.2.2.1, u.2.2.2.2.2.2.2.2.2.2.2.2.2.2.2.2.2.1, u.2.2.2.2.2.2.2.2.2.2.2.2.2.2.2.2.2.2.1, u.2.2.2.2.2.2.2.2.2.2.2.2.2.2.2.2.2.2.2)
abbrev m_s_rc (u : MSt) (x : Nat → Int64) : MSt := (u.1, u.2.1, u.2.2.1, u.2.2.2.1, u.2.2.2.2.1, u.2.2.2.2.2.1, u.2.2.2.2.2.2.1, u.2.2.2.2.2.2.2.1, u.2.2.2.2.2.2.2.2.1, u.2.2.2.2.2.2.2.2.2.1, u.2.2.2.2.2.2.2.2.2.2.1, u.2.2.2.2.2.2.2.2.2.2.2.1, u.2.2.2.2.2.2.2.2.2.2.2.2.1, u.2.2.2.2.2.2.2.2.2.2.2.2.2.1, x, u.2.2.2.2.2.2.2.2.2.2.2.2.2.2.2.1, u.2.2.2.2.2.2.2.2.2.2.2.2.2.2.2.2.1, u.2.2.2.2.2.2.2.2.2.2.2.2.2.2.2.2.2.1, u.2.2.2.2.2.2.2.2.2.2.2.2.2.2.2.2.2.2.1, u.2.2.2.2.2.2.2.2.2.2.2.2.2.2.2.2.2.2.2)
abbrev m_s_cul (u : MSt) (x : Nat → Nat) : MSt := (u.1, u.2.1, u.2.2.1, u.2.2.2.1, u.2.2.2.2.1, u.2.2.2.2.2.1, u.2.2.2.2.2.2.1, u.2.2.2.2.2.2.2.1, u.2.2.2.2.2.2.2.2.1, u.2.2.2.2.2.2.2.2.2.1, u.2.2.2.2.2.2.2.2.2.2.1, u.2.2.2.2.2.2.2.2.2.2.2.1, u.2.2.2.2.2.2.2.2.2.2.2.2.1, u.2.2.2.2.2.2.2.2.2.2.2.2.2.1, u.2.2.2.2.2.2.2.2.2.2.2.2.2.2.1, x, u.2.2.2.2.2.2.2.2.2.2.2.2.2.2.2.2.1, u.2.2.2.2.2.2.2.2.2.2.2.2.2.2.2.2.2.1, u.2.2.2.2.2.2.2.2.2.2.2.2.2.2.2.2.2.2.1, u.2.2.2.2.2.2.2.2.2.2.2.2.2.2.2.2.2.2.2)
abbrev m_s_gu (u : MSt) (x : Bool) : MSt := (u.1, u.2.1, u.2.2.1, u.2.2.2.1, u.2.2.2.2.1, u.2.2.2.2.2.1, u.2.2.2.2.2.2.1, u.2.2.2.2.2.2.2.1, u.2.2.2.2.2.2.2.2.1, u.2.2.2.2.2.2.2.2.2.1, u.2.2.2.2.2.2.2.2.2.2.1, u.2.2.2.2.2.2.2.2.2.2.2.1, u.2.2.2.2.2.2.2.2.2.2.2.2.1, u.2.2.2.2.2.2.2.2.2.2.2.2.2.1, u.2.2.2.2.2.2.2.2.2.2.2.2.2.2.1, u.2.2.2.2.2.2.2.2.2.2.2.2.2.2.2.1, x, u.2.2.2.2.2.2.2.2.2.2.2.2.2.2.2.2.2.1, u.2.2.2.2.2.2.2.2.2.2.2.2.2.2.2.2.2.2.1, u.2.2.2.2.2.2.2.2.2.2.2.2.2.2.2.2.2.2.2)
abbrev m_s_te (u : MSt) (x : Nat) : MSt := (u.1, u.2.1, u.2.2.1, u.2.2.2.1, u.2.2.2.2.1, u.2.2.2.2.2.1, u.2.2.2.2.2.2.1, u.2.2.2.2.2.2.2.1, u.2.2.2.2.2.2.2.2.1, u.2.2.2.2.2.2.2.2.2.1, u.2.2.2.2.2.2.2.2.2.2.1, u.2.2.2.2.2.2.2.2.2.2.2.1, u.2.2.2.2.2.2.2.2.2.2.2.2.1, u.2.2.2.2.2.2.2.2.2.2.2.2.2.1, u.2.2.2.2.2.2.2.2.2.2.2.2.2.2.1, u.2.2.2.2.2.2.2.2.2.2.2.2.2.2.2.1, u.2.2.2.2.2.2.2.2.2.2.2.2.2.2.2.2.1, x, u.2.2.2.2.2.2.2.2.2.2.2.2.2.2.2.2.2.2.1, u.2.2.2.2.2.2.2.2.2.2.2.2.2.2.2.2.2.2.2)
abbrev m_s_th (u : MSt) (x : Nat) : MSt := (u.1, u.2.1, u.2.2.1, u.2.2.2.1, u.2.2.2.2.1, u.2.2.2.2.2.1, u.2.2.2.2.2.2.1, u.2.2.2.2.2.2.2.1, u.2.2.2.2.2.2.2.2.1, u.2.2.2.2.2.2.2.2.2.1, u.2.2.2.2.2.2.2.2.2.2.1, u.2.2.2.2.2.2.2.2.2.2.2.1, u.2.2.2.2.2.2.2.2.2.2.2.2.1, u.2.2.2.2.2.2.2.2.2.2.2.2.2.1, u.2.2.2.2.2.2.2.2.2.2.2.2.2.2.1, u.2.2.2.2.2.2.2.2.2.2.2.2.2.2.2.1, u.2.2.2.2.2.2.2.2.2.2.2.2.2.2.2.2.1, u.2.2.2.2.2.2.2.2.2.2.2.2.2.2.2.2.2.1, x, u.2.2.2.2.2.2.2.2.2.2.2.2.2.2.2.2.2.2.2)
abbrev m_s_wet (u : MSt) (x : Nat → Bool) : MSt := (u.1, u.2.1, u.2.2.1, u.2.2.2.1, u.2.2.2.2.1, u.2.2.2.2.2.1, u.2.2.2.2.2.2.1, u.2.2.2.2.2.2.2.1, u.2.2.2.2.2.2.2.2.1, u.2.2.2.2.2.2.2.2.2.1, u.2.2.2.2.2.2.2.2.2.2.1, u.2.2.2.2.2.2.2.2.2.2.2.1, u.2.2.2.2.2.2.2.2.2.2.2.2.1, u.2.2.2.2.2.2.2.2.2.2.2.2.2.1, u.2.2.2.2.2.2.2.2.2.2.2.2.2.2.1, u.2.2.2.2.2.2.2.2.2.2.2.2.2.2.2.1, u.2.2.2.2.2.2.2.2.2.2.2.2.2.2.2.2.1, u.2.2.2.2.2.2.2.2.2.2.2.2.2.2.2.2.2.1, u.2.2.2.2.2.2.2.2.2.2.2.2.2.2.2.2.2.2.1, x)
abbrev m_mk (x0 : Nat → Nat) (x1 : Nat → Int64) (x2 : Nat) (x3 : Nat → Nat) (x4 : Nat → Nat) (x5 : Nat → Nat) (x6 : Nat → Bool) (x7 : Nat → Bool) (x8 : Nat) (x9 : Nat → Bool) (x10 : Nat) (x11 : Nat → Nat) (x12 : Nat → Nat) (x13 : Nat → Int64) (x14 : Nat → Int64) (x15 : Nat → Nat) (x16 : Bool) (x17 : Nat) (x18 : Nat) (x19 : Nat → Bool) : MSt := (x0, x1, x2, x3, x4, x5, x6, x7, x8, x9, x10, x11, x12, x13, x14, x15, x16, x17, x18, x19)
theorem m_mk_liq {x0 : Nat → Nat} {x1 : Nat → Int64} {x2 : Nat} {x3 : Nat → Nat} {x4 : Nat → Nat} {x5 : Nat → Nat} {x6 : Nat → Bool} {x7 : Nat → Bool} {x8 : Nat} {x9 : Nat → Bool} {x10 : Nat} {x11 : Nat → Nat} {x12 : Nat → Nat} {x13 : Nat → Int64} {x14 : Nat → Int64} {x15 : Nat → Nat} {x16 : Bool} {x17 : Nat} {x18 : Nat} {x19 : Nat → Bool} : m_liq (m_mk x0 x1 x2 x3 x4 x5 x6 x7 x8 x9 x10 x11 x12 x13 x14 x15 x16 x17 x18 x19) = x0 := rfl
theorem m_mk_lev {x0 : Nat → Nat} {x1 : Nat → Int64} {x2 : Nat} {x3 : Nat → Nat} {x4 : Nat → Nat} {x5 : Nat → Nat} {x6 : Nat → Bool} {x7 : Nat → Bool} {x8 : Nat} {x9 : Nat → Bool} {x10 : Nat} {x11 : Nat → Nat} {x12 : Nat → Nat} {x13 : Nat → Int64} {x14 : Nat → Int64} {x15 : Nat → Nat} {x16 : Bool} {x17 : Nat} {x18 : Nat} {x19 : Nat → Bool} : m_lev (m_mk x0 x1 x2 x3 x4 x5 x6 x7 x8 x9 x10 x11 x12 x13 x14 x15 x16 x17 x18 x19) = x1 := rfl
theorem m_mk_nS {x0 : Nat → Nat} {x1 : Nat → Int64} {x2 : Nat} {x3 : Nat → Nat} {x4 : Nat → Nat} {x5 : Nat → Nat} {x6 : Nat → Bool} {x7 : Nat → Bool} {x8 : Nat} {x9 : Nat → Bool} {x10 : Nat} {x11 : Nat → Nat} {x12 : Nat → Nat} {x13 : Nat → Int64} {x14 : Nat → Int64} {x15 : Nat → Nat} {x16 : Bool} {x17 : Nat} {x18 : Nat} {x19 : Nat → Bool} : m_nS (m_mk x0 x1 x2 x3 x4 x5 x6 x7 x8 x9 x10 x11 x12 x13 x14 x15 x16 x17 x18 x19) = x2 := rfl
theorem m_mk_fa {x0 : Nat → Nat} {x1 : Nat → Int64} {x2 : Nat} {x3 : Nat → Nat} {x4 : Nat → Nat} {x5 : Nat → Nat} {x6 : Nat → Bool} {x7 : Nat → Bool} {x8 : Nat} {x9 : Nat → Bool} {x10 : Nat} {x11 : Nat → Nat} {x12 : Nat → Nat} {x13 : Nat → Int64} {x14 : Nat → Int64} {x15 : Nat → Nat} {x16 : Bool} {x17 : Nat} {x18 : Nat} {x19 : Nat → Bool} : m_fa (m_mk x0 x1 x2 x3 x4 x5 x6 x7 x8 x9 x10 x11 x12 x13 x14 x15 x16 x17 x18 x19) = x3 := rfl
theorem m_mk_fb {x0 : Nat → Nat} {x1 : Nat → Int64} {x2 : Nat} {x3 : Nat → Nat} {x4 : Nat → Nat} {x5 : Nat → Nat} {x6 : Nat → Bool} {x7 : Nat → Bool} {x8 : Nat} {x9 : Nat → Bool} {x10 : Nat} {x11 : Nat → Nat} {x12 : Nat → Nat} {x13 : Nat → Int64} {x14 : Nat → Int64} {x15 : Nat → Nat} {x16 : Bool} {x17 : Nat} {x18 : Nat} {x19 : Nat → Bool} : m_fb (m_mk x0 x1 x2 x3 x4 x5 x6 x7 x8 x9 x10 x11 x12 x13 x14 x15 x16 x17 x18 x19) = x4 := rfl
theorem m_mk_seat {x0 : Nat → Nat} {x1 : Nat → Int64} {x2 : Nat} {x3 : Nat → Nat} {x4 : Nat → Nat} {x5 : Nat → Nat} {x6 : Nat → Bool} {x7 : Nat → Bool} {x8 : Nat} {x9 : Nat → Bool} {x10 : Nat} {x11 : Nat → Nat} {x12 : Nat → Nat} {x13 : Nat → Int64} {x14 : Nat → Int64} {x15 : Nat → Nat} {x16 : Bool} {x17 : Nat} {x18 : Nat} {x19 : Nat → Bool} : m_seat (m_mk x0 x1 x2 x3 x4 x5 x6 x7 x8 x9 x10 x11 x12 x13 x14 x15 x16 x17 x18 x19) = x5 := rfl
theorem m_mk_op {x0 : Nat → Nat} {x1 : Nat → Int64} {x2 : Nat} {x3 : Nat → Nat} {x4 : Nat → Nat} {x5 : Nat → Nat} {x6 : Nat → Bool} {x7 : Nat → Bool} {x8 : Nat} {x9 : Nat → Bool} {x10 : Nat} {x11 : Nat → Nat} {x12 : Nat → Nat} {x13 : Nat → Int64} {x14 : Nat → Int64} {x15 : Nat → Nat} {x16 : Bool} {x17 : Nat} {x18 : Nat} {x19 : Nat → Bool} : m_op (m_mk x0 x1 x2 x3 x4 x5 x6 x7 x8 x9 x10 x11 x12 x13 x14 x15 x16 x17 x18 x19) = x6 := rfl
theorem m_mk_un {x0 : Nat → Nat} {x1 : Nat → Int64} {x2 : Nat} {x3 : Nat → Nat} {x4 : Nat → Nat} {x5 : Nat → Nat} {x6 : Nat → Bool} {x7 : Nat → Bool} {x8 : Nat} {x9 : Nat → Bool} {x10 : Nat} {x11 : Nat → Nat} {x12 : Nat → Nat} {x13 : Nat → Int64} {x14 : Nat → Int64} {x15 : Nat → Nat} {x16 : Bool} {x17 : Nat} {x18 : Nat} {x19 : Nat → Bool} : m_un (m_mk x0 x1 x2 x3 x4 x5 x6 x7 x8 x9 x10 x11 x12 x13 x14 x15 x16 x17 x18 x19) = x7 := rfl
theorem m_mk_nV {x0 : Nat → Nat} {x1 : Nat → Int64} {x2 : Nat} {x3 : Nat → Nat} {x4 : Nat → Nat} {x5 : Nat → Nat} {x6 : Nat → Bool} {x7 : Nat → Bool} {x8 : Nat} {x9 : Nat → Bool} {x10 : Nat} {x11 : Nat → Nat} {x12 : Nat → Nat} {x13 : Nat → Int64} {x14 : Nat → Int64} {x15 : Nat → Nat} {x16 : Bool} {x17 : Nat} {x18 : Nat} {x19 : Nat → Bool} : m_nV (m_mk x0 x1 x2 x3 x4 x5 x6 x7 x8 x9 x10 x11 x12 x13 x14 x15 x16 x17 x18 x19) = x8 := rfl
theorem m_mk_may {x0 : Nat → Nat} {x1 : Nat → Int64} {x2 : Nat} {x3 : Nat → Nat} {x4 : Nat → Nat} {x5 : Nat → Nat} {x6 : Nat → Bool} {x7 : Nat → Bool} {x8 : Nat} {x9 : Nat → Bool} {x10 : Nat} {x11 : Nat → Nat} {x12 : Nat → Nat} {x13 : Nat → Int64} {x14 : Nat → Int64} {x15 : Nat → Nat} {x16 : Bool} {x17 : Nat} {x18 : Nat} {x19 : Nat → Bool} : m_may (m_mk x0 x1 x2 x3 x4 x5 x6 x7 x8 x9 x10 x11 x12 x13 x14 x15 x16 x17 x18 x19) = x9 := rfl
theorem m_mk_nR {x0 : Nat → Nat} {x1 : Nat → Int64} {x2 : Nat} {x3 : Nat → Nat} {x4 : Nat → Nat} {x5 : Nat → Nat} {x6 : Nat → Bool} {x7 : Nat → Bool} {x8 : Nat} {x9 : Nat → Bool} {x10 : Nat} {x11 : Nat → Nat} {x12 : Nat → Nat} {x13 : Nat → Int64} {x14 : Nat → Int64} {x15 : Nat → Nat} {x16 : Bool} {x17 : Nat} {x18 : Nat} {x19 : Nat → Bool} : m_nR (m_mk x0 x1 x2 x3 x4 x5 x6 x7 x8 x9 x10 x11 x12 x13 x14 x15 x16 x17 x18 x19) = x10 := rfl
theorem m_mk_rf {x0 : Nat → Nat} {x1 : Nat → Int64} {x2 : Nat} {x3 : Nat → Nat} {x4 : Nat → Nat} {x5 : Nat → Nat} {x6 : Nat → Bool} {x7 : Nat → Bool} {x8 : Nat} {x9 : Nat → Bool} {x10 : Nat} {x11 : Nat → Nat} {x12 : Nat → Nat} {x13 : Nat → Int64} {x14 : Nat → Int64} {x15 : Nat → Nat} {x16 : Bool} {x17 : Nat} {x18 : Nat} {x19 : Nat → Bool} : m_rf (m_mk x0 x1 x2 x3 x4 x5 x6 x7 x8 x9 x10 x11 x12 x13 x14 x15 x16 x17 x18 x19) = x11 := rfl
theorem m_mk_rl {x0 : Nat → Nat} {x1 : Nat → Int64} {x2 : Nat} {x3 : Nat → Nat} {x4 : Nat → Nat} {x5 : Nat → Nat} {x6 : Nat → Bool} {x7 : Nat → Bool} {x8 : Nat} {x9 : Nat → Bool} {x10 : Nat} {x11 : Nat → Nat} {x12 : Nat → Nat} {x13 : Nat → Int64} {x14 : Nat → Int64} {x15 : Nat → Nat} {x16 : Bool} {x17 : Nat} {x18 : Nat} {x19 : Nat → Bool} : m_rl (m_mk x0 x1 x2 x3 x4 x5 x6 x7 x8 x9 x10 x11 x12 x13 x14 x15 x16 x17 x18 x19) = x12 := rfl
theorem m_mk_rw {x0 : Nat → Nat} {x1 : Nat → Int64} {x2 : Nat} {x3 : Nat → Nat} {x4 : Nat → Nat} {x5 : Nat → Nat} {x6 : Nat → Bool} {x7 : Nat → Bool} {x8 : Nat} {x9 : Nat → Bool} {x10 : Nat} {x11 : Nat → Nat} {x12 : Nat → Nat} {x13 : Nat → Int64} {x14 : Nat → Int64} {x15 : Nat → Nat} {x16 : Bool} {x17 : Nat} {x18 : Nat} {x19 : Nat → Bool} : m_rw (m_mk x0 x1 x2 x3 x4 x5 x6 x7 x8 x9 x10 x11 x12 x13 x14 x15 x16 x17 x18 x19) = x13 := rfl
theorem m_mk_rc {x0 : Nat → Nat} {x1 : Nat → Int64} {x2 : Nat} {x3 : Nat → Nat} {x4 : Nat → Nat} {x5 : Nat → Nat} {x6 : Nat → Bool} {x7 : Nat → Bool} {x8 : Nat} {x9 : Nat → Bool} {x10 : Nat} {x11 : Nat → Nat} {x12 : Nat → Nat} {x13 : Nat → Int64} {x14 : Nat → Int64} {x15 : Nat → Nat} {x16 : Bool} {x17 : Nat} {x18 : Nat} {x19 : Nat → Bool} : m_rc (m_mk x0 x1 x2 x3 x4 x5 x6 x7 x8 x9 x10 x11 x12 x13 x14 x15 x16 x17 x18 x19) = x14 := rfl
theorem m_mk_cul {x0 : Nat → Nat} {x1 : Nat → Int64} {x2 : Nat} {x3 : Nat → Nat} {x4 : Nat → Nat} {x5 : Nat → Nat} {x6 : Nat → Bool} {x7 : Nat → Bool} {x8 : Nat} {x9 : Nat → Bool} {x10 : Nat} {x11 : Nat → Nat} {x12 : Nat → Nat} {x13 : Nat → Int64} {x14 : Nat → Int64} {x15 : Nat → Nat} {x16 : Bool} {x17 : Nat} {x18 : Nat} {x19 : Nat → Bool} : m_cul (m_mk x0 x1 x2 x3 x4 x5 x6 x7 x8 x9 x10 x11 x12 x13 x14 x15 x16 x17 x18 x19) = x15 := rfl
theorem m_mk_gu {x0 : Nat → Nat} {x1 : Nat → Int64} {x2 : Nat} {x3 : Nat → Nat} {x4 : Nat → Nat} {x5 : Nat → Nat} {x6 : Nat → Bool} {x7 : Nat → Bool} {x8 : Nat} {x9 : Nat → Bool} {x10 : Nat} {x11 : Nat → Nat} {x12 : Nat → Nat} {x13 : Nat → Int64} {x14 : Nat → Int64} {x15 : Nat → Nat} {x16 : Bool} {x17 : Nat} {x18 : Nat} {x19 : Nat → Bool} : m_gu (m_mk x0 x1 x2 x3 x4 x5 x6 x7 x8 x9 x10 x11 x12 x13 x14 x15 x16 x17 x18 x19) = x16 := rfl
theorem m_mk_te {x0 : Nat → Nat} {x1 : Nat → Int64} {x2 : Nat} {x3 : Nat → Nat} {x4 : Nat → Nat} {x5 : Nat → Nat} {x6 : Nat → Bool} {x7 : Nat → Bool} {x8 : Nat} {x9 : Nat → Bool} {x10 : Nat} {x11 : Nat → Nat} {x12 : Nat → Nat} {x13 : Nat → Int64} {x14 : Nat → Int64} {x15 : Nat → Nat} {x16 : Bool} {x17 : Nat} {x18 : Nat} {x19 : Nat → Bool} : m_te (m_mk x0 x1 x2 x3 x4 x5 x6 x7 x8 x9 x10 x11 x12 x13 x14 x15 x16 x17 x18 x19) = x17 := rfl
theorem m_mk_th {x0 : Nat → Nat} {x1 : Nat → Int64} {x2 : Nat} {x3 : Nat → Nat} {x4 : Nat → Nat} {x5 : Nat → Nat} {x6 : Nat → Bool} {x7 : Nat → Bool} {x8 : Nat} {x9 : Nat → Bool} {x10 : Nat} {x11 : Nat → Nat} {x12 : Nat → Nat} {x13 : Nat → Int64} {x14 : Nat → Int64} {x15 : Nat → Nat} {x16 : Bool} {x17 : Nat} {x18 : Nat} {x19 : Nat → Bool} : m_th (m_mk x0 x1 x2 x3 x4 x5 x6 x7 x8 x9 x10 x11 x12 x13 x14 x15 x16 x17 x18 x19) = x18 := rfl
theorem m_mk_wet {x0 : Nat → Nat} {x1 : Nat → Int64} {x2 : Nat} {x3 : Nat → Nat} {x4 : Nat → Nat} {x5 : Nat → Nat} {x6 : Nat → Bool} {x7 : Nat → Bool} {x8 : Nat} {x9 : Nat → Bool} {x10 : Nat} {x11 : Nat → Nat} {x12 : Nat → Nat} {x13 : Nat → Int64} {x14 : Nat → Int64} {x15 : Nat → Nat} {x16 : Bool} {x17 : Nat} {x18 : Nat} {x19 : Nat → Bool} : m_wet (m_mk x0 x1 x2 x3 x4 x5 x6 x7 x8 x9 x10 x11 x12 x13 x14 x15 x16 x17 x18 x19) = x19 := rfl
abbrev MA : Type := Nat × Nat × Nat × Nat × Nat × Nat × Nat × Nat × Nat × Nat × Nat × Nat × Nat × Nat × Nat × ClassId × ClassId × ClassId
abbrev ma_o (q : MA) : Nat := q.1
abbrev ma_liq (q : MA) : Nat := q.2.1
abbrev ma_lev (q : MA) : Nat := q.2.2.1
abbrev ma_fa (q : MA) : Nat := q.2.2.2.1
abbrev ma_fb (q : MA) : Nat := q.2.2.2.2.1
abbrev ma_seat (q : MA) : Nat := q.2.2.2.2.2.1
abbrev ma_op (q : MA) : Nat := q.2.2.2.2.2.2.1
abbrev ma_un (q : MA) : Nat := q.2.2.2.2.2.2.2.1
abbrev ma_may (q : MA) : Nat := q.2.2.2.2.2.2.2.2.1
abbrev ma_rf (q : MA) : Nat := q.2.2.2.2.2.2.2.2.2.1
abbrev ma_rl (q : MA) : Nat := q.2.2.2.2.2.2.2.2.2.2.1
abbrev ma_rw (q : MA) : Nat := q.2.2.2.2.2.2.2.2.2.2.2.1
abbrev ma_rc (q : MA) : Nat := q.2.2.2.2.2.2.2.2.2.2.2.2.1
abbrev ma_cul (q : MA) : Nat := q.2.2.2.2.2.2.2.2.2.2.2.2.2.1
abbrev ma_wet (q : MA) : Nat := q.2.2.2.2.2.2.2.2.2.2.2.2.2.2.1
abbrev ma_cI (q : MA) : ClassId := q.2.2.2.2.2.2.2.2.2.2.2.2.2.2.2.1
abbrev ma_cJ (q : MA) : ClassId := q.2.2.2.2.2.2.2.2.2.2.2.2.2.2.2.2.1
abbrev ma_cZ (q : MA) : ClassId := q.2.2.2.2.2.2.2.2.2.2.2.2.2.2.2.2.2
abbrev tM (q : MA) : List (ClassId × FieldType) := [(ma_cI q, .int), (ma_cJ q, .long), (ma_cZ q, .boolean)]
abbrev wMx (q : MA) (x0 : Nat → Nat) (x1 : Nat → Int64) (x2 : Nat) (x3 : Nat → Nat) (x4 : Nat → Nat) (x5 : Nat → Nat) (x6 : Nat → Bool) (x7 : Nat → Bool) (x8 : Nat) (x9 : Nat → Bool) (x10 : Nat) (x11 : Nat → Nat) (x12 : Nat → Nat) (x13 : Nat → Int64) (x14 : Nat → Int64) (x15 : Nat → Nat) (x16 : Bool) (x17 : Nat) (x18 : Nat) (x19 : Nat → Bool) : va_W := [(ma_o q, .inr (4, [.ref (ma_liq q), .ref (ma_lev q), .int (nI x2), .ref (ma_fa q), .ref (ma_fb q), .ref (ma_seat q), .ref (ma_op q), .ref (ma_un q), .int (nI x8), .ref (ma_may q), .int (nI x10), .ref (ma_rf q), .ref (ma_rl q), .ref (ma_rw q), .ref (ma_rc q), .ref (ma_cul q), .int (bI x16), .int (nI x17), .int (nI x18), .ref (ma_wet q)])),
  (ma_liq q, .inl (ma_cI q, 64, .inl (fun j => nI (x0 j)))),
  (ma_lev q, .inl (ma_cJ q, 64, .inr (.inl x1))),
  (ma_fa q, .inl (ma_cI q, 64, .inl (fun j => nI (x3 j)))),
  (ma_fb q, .inl (ma_cI q, 64, .inl (fun j => nI (x4 j)))),
  (ma_seat q, .inl (ma_cI q, 64, .inl (fun j => nI (x5 j)))),
  (ma_op q, .inl (ma_cZ q, 64, .inl (fun j => bI (x6 j)))),
  (ma_un q, .inl (ma_cZ q, 64, .inl (fun j => bI (x7 j)))),
  (ma_may q, .inl (ma_cZ q, 256, .inl (fun j => bI (x9 j)))),
  (ma_rf q, .inl (ma_cI q, 975, .inl (fun j => nI (x11 j)))),
  (ma_rl q, .inl (ma_cI q, 975, .inl (fun j => nI (x12 j)))),
  (ma_rw q, .inl (ma_cJ q, 975, .inr (.inl x13))),
  (ma_rc q, .inl (ma_cJ q, 975, .inr (.inl x14))),
  (ma_cul q, .inl (ma_cI q, 4, .inl (fun j => nI (x15 j)))),
  (ma_wet q, .inl (ma_cZ q, 64, .inl (fun j => bI (x19 j))))]
abbrev wM (q : MA) (u : MSt) : va_W := wMx q (m_liq u) (m_lev u) (m_nS u) (m_fa u) (m_fb u) (m_seat u) (m_op u) (m_un u) (m_nV u) (m_may u) (m_nR u) (m_rf u) (m_rl u) (m_rw u) (m_rc u) (m_cul u) (m_gu u) (m_te u) (m_th u) (m_wet u)
def ixB (x : Int32) (n : Nat) : Bool := decide (¬ x < 0 ∧ ¬ nI n ≤ x)
theorem ixB_of {x : Int32} {n : Nat} (hn : n < 2 ^ 31) (h : ixB x n = true) : ∃ j : Nat, j < n ∧ x = nI j := by
  have h := of_decide_eq_true h
  rcases pk_ix x hn with q | q | q
  · exact absurd q h.1
  · exact absurd q h.2
  · exact q
theorem ixB_lo {x : Int32} {n : Nat} (h : x < 0) : ixB x n = false := decide_eq_false (fun q => q.1 h)
theorem ixB_hi {x : Int32} {n : Nat} (h : nI n ≤ x) : ixB x n = false := decide_eq_false (fun q => q.2 h)
theorem ixB_nl {x : Int32} {n : Nat} (h : ¬ x < nI n) : ixB x n = false := ixB_hi (Int32.not_lt.mp h)
theorem ixB_nI {j n : Nat} (hn : n < 2 ^ 31) (hj : j < n) : ixB (nI j) n = true := decide_eq_true ⟨nI_pos (by omega), nI_ge hj hn⟩
/-- what the reference's state keeps to -/
def MOk (u : MSt) : Prop := m_nS u ≤ 64 ∧ m_nV u ≤ 64 ∧ m_nR u ≤ 975 ∧ (∀ j, m_liq u j < 16) ∧ (∀ j, m_fa u j < 64) ∧ (∀ j, m_fb u j < 64) ∧ (∀ j, m_rf u j < 65) ∧ (∀ j, m_rl u j < 16) ∧ (∀ v, v < m_nV u → m_fa u v < m_nS u ∧ m_fb u v < m_nS u ∧ m_fa u v ≠ m_fb u v) ∧ m_te u ≤ 975 ∧ (∀ j, m_seat u j < 4)
def mlets (u : MSt) (v f : Nat) : Bool := if m_seat u v = 2 ∧ m_op u v = false then false else (m_un u v || (m_op u v != decide (f = v + 1)))
def mS (u : MSt) (a : Nat) : Nat → Bool := fun t => decide (t < m_nS u ∧ m_liq u t = a)
def mFl (u : MSt) (a f : Nat) (t : Nat) : Prop := Fl (m_nV u) (m_lev u) (m_fa u) (m_fb u) (fun v => mlets u v f) (mS u a) t
noncomputable def mF (u : MSt) (a f : Nat) : Int64 := ofB (fun i => pB (mFl u a f i))
theorem mFl_lt {u : MSt} (hu : MOk u) {a f t : Nat} (h : mFl u a f t) : t < m_nS u :=
  Fl.lt (fun t ht => (of_decide_eq_true ht).1) (fun v hv => ⟨(hu.2.2.2.2.2.2.2.2.1 v hv).1, (hu.2.2.2.2.2.2.2.2.1 v hv).2.1⟩) h
/-- the wet spaces: the sources among them, and none where the liquid isn't -/
def FI (u : MSt) (a f : Nat) (w : Nat → Bool) : Prop := (∀ t, t < m_nS u → m_liq u t = a → w t = true) ∧ ∀ t, t < m_nS u → w t = true → mFl u a f t
/-- nothing flows over the valves below v -/
def FC (u : MSt) (f : Nat) (w : Nat → Bool) (v : Nat) : Prop := ∀ x, x < v → mlets u x f = true → (w (m_fa u x) = true → m_lev u (m_fb u x) ≤ m_lev u (m_fa u x) → w (m_fb u x) = true) ∧ (w (m_fb u x) = true → m_lev u (m_fa u x) ≤ m_lev u (m_fb u x) → w (m_fa u x) = true)
theorem FC_0 {u : MSt} {f : Nat} {w : Nat → Bool} : FC u f w 0 := fun x hx => absurd hx (Nat.not_lt_zero x)
theorem FC_s {u : MSt} {f v : Nat} {w : Nat → Bool} (h : FC u f w v) (h1 : mlets u v f = true → (w (m_fa u v) = true → m_lev u (m_fb u v) ≤ m_lev u (m_fa u v) → w (m_fb u v) = true) ∧ (w (m_fb u v) = true → m_lev u (m_fa u v) ≤ m_lev u (m_fb u v) → w (m_fa u v) = true)) : FC u f w (v + 1) := by
  intro x hx hL
  by_cases e : x = v
  · subst e; exact h1 hL
  · exact h x (by omega) hL
theorem FI_0 {u : MSt} {a f : Nat} {w : Nat → Bool} (h : ∀ t, t < m_nS u → w t = decide (m_liq u t = a)) : FI u a f w := by
  refine ⟨fun t ht e => by rw [h t ht, decide_eq_true e], fun t ht e => ?_⟩
  rw [h t ht] at e
  exact Fl.src (decide_eq_true ⟨ht, of_decide_eq_true e⟩)
theorem FI_ab {u : MSt} {a f v : Nat} {w : Nat → Bool} (hu : MOk u) (hv : v < m_nV u) (hL : mlets u v f = true) (h : FI u a f w) (hw : w (m_fa u v) = true) (hl : m_lev u (m_fb u v) ≤ m_lev u (m_fa u v)) : FI u a f (va_up w (m_fb u v) true) := by
  obtain ⟨q1, q2, -⟩ := hu.2.2.2.2.2.2.2.2.1 v hv
  refine ⟨fun t ht e => ?_, fun t ht e => ?_⟩
  · unfold va_up; split
    · rfl
    · exact h.1 t ht e
  · by_cases e2 : t = m_fb u v
    · subst e2; exact (Fl.cl v hv hL).1 (h.2 _ q1 hw) hl
    · rw [va_up_ne w true e2] at e; exact h.2 t ht e
theorem FI_ba {u : MSt} {a f v : Nat} {w : Nat → Bool} (hu : MOk u) (hv : v < m_nV u) (hL : mlets u v f = true) (h : FI u a f w) (hw : w (m_fb u v) = true) (hl : m_lev u (m_fa u v) ≤ m_lev u (m_fb u v)) : FI u a f (va_up w (m_fa u v) true) := by
  obtain ⟨q1, q2, -⟩ := hu.2.2.2.2.2.2.2.2.1 v hv
  refine ⟨fun t ht e => ?_, fun t ht e => ?_⟩
  · unfold va_up; split
    · rfl
    · exact h.1 t ht e
  · by_cases e2 : t = m_fa u v
    · subst e2; exact (Fl.cl v hv hL).2 (h.2 _ q2 hw) hl
    · rw [va_up_ne w true e2] at e; exact h.2 t ht e
theorem FI_end {u : MSt} {a f : Nat} {w : Nat → Bool} {x : Int64} (hu : MOk u) (h : FI u a f w) (hc : FC u f w (m_nV u)) (hx : ∀ j, tb x j = (decide (j < m_nS u) && w j)) : x = mF u a f := by
  refine ofB_eq fun i _ => ?_
  rw [hx i]
  by_cases hi : i < m_nS u
  · cases hw : w i with
    | true => simp [hi]; exact pB_t.mpr (h.2 i hi hw)
    | false =>
      simp
      refine pB_f.mpr fun q => ?_
      have := q (fun t => t < m_nS u ∧ w t = true) (fun t ht => ⟨(of_decide_eq_true ht).1, h.1 t (of_decide_eq_true ht).1 (of_decide_eq_true ht).2⟩) (fun v hv hL => ?_)
      · rw [hw] at this; exact absurd this.2 (by decide)
      · obtain ⟨q1, q2, -⟩ := hu.2.2.2.2.2.2.2.2.1 v hv
        exact ⟨fun z hl => ⟨q2, (hc v hv hL).1 z.2 hl⟩, fun z hl => ⟨q1, (hc v hv hL).2 z.2 hl⟩⟩
  · simp [hi]
    exact pB_f.mpr fun q => hi (mFl_lt hu q)
theorem up_lt {β : Type} {w h : Nat → β} {i : Nat} {x : β} (hw : ∀ t, t < i → w t = h t) (hx : x = h i) : ∀ t, t < i + 1 → va_up w i x t = h t := by
  intro t ht
  unfold va_up
  split
  · rename_i e; rw [e]; exact hx
  · exact hw t (by omega)
theorem bits_t {x : Int64} {w : Nat → Bool} {i : Nat} (h : ∀ j, tb x j = (decide (j < i) && w j)) (hi : i < 64) (hw : w i = true) : ∀ j, tb (x ||| bt i) j = (decide (j < i + 1) && w j) := by
  intro j
  rw [tb_or, tb_bt hi, h j]
  by_cases e : j = i
  · subst e; simp [hw]
  · by_cases e2 : j < i
    · simp [e, e2, show j < i + 1 by omega]
    · simp [e, e2, show ¬ j < i + 1 by omega]
theorem bits_f {x : Int64} {w : Nat → Bool} {i : Nat} (h : ∀ j, tb x j = (decide (j < i) && w j)) (hw : w i = false) : ∀ j, tb x j = (decide (j < i + 1) && w j) := by
  intro j
  rw [h j]
  by_cases e : j = i
  · subst e; simp [hw]
  · by_cases e2 : j < i
    · simp [e2, show j < i + 1 by omega]
    · simp [e2, show ¬ j < i + 1 by omega]
theorem bits_0 {w : Nat → Bool} : ∀ j, tb 0 j = (decide (j < 0) && w j) := fun j => by rw [tb_0]; simp
def mCb (u : MSt) (x : Int64) (f v : Nat) : Bool := (tb x (m_fa u v) != tb x (m_fb u v)) && !mlets u v f && decide ((if tb x (m_fa u v) = true then m_lev u (m_fb u v) else m_lev u (m_fa u v)) ≤ (if tb x (m_fa u v) = true then m_lev u (m_fa u v) else m_lev u (m_fb u v)))
def mC (u : MSt) (x : Int64) (f : Nat) : Int64 := ofB (fun v => decide (v < m_nV u) && mCb u x f v)
def mTh (u : MSt) (a : Nat) : Bool := anyB (fun t => decide (m_liq u t = a)) (m_nS u) && decide (0 < a)
theorem tb_shr1 (x : Int64) {k : Nat} (hk : k < 64) : ((x.toUInt64 >>> ((nI k).toInt64.toUInt64 &&& Int64.toUInt64 63)).toInt64 &&& 1) = 1 ↔ tb x k = true := by
  obtain ⟨n, hn, rfl⟩ := wb_of x
  rw [wb_bit hn hk, tb_lN hk, show (1 : Int64) = lN 1 from rfl, Nat.testBit_eq_decide_div_mod_eq]
  constructor
  · intro h
    rcases Nat.mod_two_eq_zero_or_one (n / 2 ^ k) with q | q
    · rw [q] at h; exact absurd h (by decide)
    · simp [q]
  · intro h
    rw [of_decide_eq_true h]
theorem dry_go {a b c : Nat} {mo : Bool} (h : (mo = true → b < c) ∧ b ≤ c) (e : a + 1 = b) : (true = true → a < c) ∧ a ≤ c := ⟨fun _ => by omega, by omega⟩
theorem dry_39 {a b n : Nat} {mo mo2 : Bool} (h : (mo2 = true → a < b) ∧ a ≤ b) (hmo : mo = true) (hm : 2 * b + (if mo = true then 1 else 0) < n + 1) : 2 * a + (if mo2 = true then 1 else 0) < n := by
  rw [if_pos hmo] at hm
  cases mo2 with
  | true => have := h.1 rfl; simp; omega
  | false => have := h.2; simp; omega
theorem mCb_t1 {u : MSt} {x : Int64} {f v : Nat} (ha : tb x (m_fa u v) = true) (hne : ¬ tb x (m_fa u v) = tb x (m_fb u v)) (hL : mlets u v f = false) (hl : m_lev u (m_fb u v) ≤ m_lev u (m_fa u v)) : mCb u x f v = true := by
  have hb : tb x (m_fb u v) = false := ts_nt (fun q => hne (ha.trans q.symm))
  unfold mCb; rw [ha, hb, hL, if_pos rfl, if_pos rfl, decide_eq_true hl]; rfl
theorem mCb_t0 {u : MSt} {x : Int64} {f v : Nat} (ha : tb x (m_fa u v) = false) (hne : ¬ tb x (m_fa u v) = tb x (m_fb u v)) (hL : mlets u v f = false) (hl : m_lev u (m_fa u v) ≤ m_lev u (m_fb u v)) : mCb u x f v = true := by
  have hb : tb x (m_fb u v) = true := ts_nf (fun q => hne (ha.trans q.symm))
  unfold mCb; rw [ha, hb, hL, if_neg (by decide), if_neg (by decide), decide_eq_true hl]; rfl
theorem mCb_f1 {u : MSt} {x : Int64} {f v : Nat} (ha : tb x (m_fa u v) = true) (hl : ¬ m_lev u (m_fb u v) ≤ m_lev u (m_fa u v)) : mCb u x f v = false := by
  unfold mCb; rw [ha, if_pos rfl, if_pos rfl, decide_eq_false hl, Bool.and_false]
theorem mCb_f0 {u : MSt} {x : Int64} {f v : Nat} (ha : tb x (m_fa u v) = false) (hl : ¬ m_lev u (m_fa u v) ≤ m_lev u (m_fb u v)) : mCb u x f v = false := by
  unfold mCb; rw [ha, if_neg (by decide), if_neg (by decide), decide_eq_false hl, Bool.and_false]
theorem mCb_fe {u : MSt} {x : Int64} {f v : Nat} (h : tb x (m_fa u v) = tb x (m_fb u v)) : mCb u x f v = false := by
  unfold mCb; rw [h]; simp
theorem mCb_fl {u : MSt} {x : Int64} {f v : Nat} (h : mlets u v f = true) : mCb u x f v = false := by
  unfold mCb; rw [h]; simp
def M_space (u : MSt) (x : Int32) : Int32 × MSt :=
  if x < 0 ∨ ¬ x < nI 16 then (-1, m_s_th u 0) else if m_nS u = 64 then (-2, m_s_th u 0)
  else (nI (m_nS u), m_s_th (m_s_nR (m_s_nS (m_s_lev (m_s_liq u (va_up (m_liq u) (m_nS u) x.toNatClampNeg)) (va_up (m_lev u) (m_nS u) 0)) (m_nS u + 1)) 0) 0)
def M_valve (u : MSt) (x y k : Int32) (o : Bool) : Int32 × MSt :=
  if ixB x (m_nS u) = false ∨ ixB y (m_nS u) = false ∨ x = y ∨ k < nI 1 ∨ ¬ k ≤ nI 2 then (-1, m_s_th u 0) else if m_nV u = 64 then (-2, m_s_th u 0)
  else (nI (m_nV u), m_s_th (m_s_nR (m_s_nV (m_s_un (m_s_op (m_s_seat (m_s_fb (m_s_fa u (va_up (m_fa u) (m_nV u) x.toNatClampNeg)) (va_up (m_fb u) (m_nV u) y.toNatClampNeg)) (va_up (m_seat u) (m_nV u) k.toNatClampNeg)) (va_up (m_op u) (m_nV u) o)) (va_up (m_un u) (m_nV u) false)) (m_nV u + 1)) 0) 0)
def M_level (u : MSt) (x : Int32) (h : Int64) : Bool × MSt :=
  if ixB x (m_nS u) = false then (false, m_s_th u 0) else (true, m_s_th (m_s_nR (m_s_lev u (va_up (m_lev u) x.toNatClampNeg h)) 0) 0)
def M_may (u : MSt) (x y : Int32) : Bool × MSt :=
  if (x ≤ 0 ∨ nI 16 ≤ x ∨ y ≤ 0 ∨ nI 16 ≤ y ∨ x = y) ∨ m_may u (16 * x.toNatClampNeg + y.toNatClampNeg) = true then (false, m_s_th u 0)
  else (true, m_s_th (m_s_nR (m_s_may u (va_up (va_up (m_may u) (16 * x.toNatClampNeg + y.toNatClampNeg) true) (16 * y.toNatClampNeg + x.toNatClampNeg) true)) 0) 0)
def M_culprit (u : MSt) (x : Int32) : Int32 := if m_gu u = true ∧ ¬ x < 0 ∧ ¬ nI 4 ≤ x then nI (m_cul u x.toNatClampNeg) else -1
def M_unsure (u : MSt) (x : Int32) (b : Bool) : Bool × MSt :=
  if ixB x (m_nV u) = false then (false, m_s_th u 1) else if m_un u x.toNatClampNeg = b then (false, m_s_th u 0)
  else (true, m_s_th (m_s_nR (m_s_un u (va_up (m_un u) x.toNatClampNeg b)) 0) 0)
/-- the places j .. k - 1 hold what stood one behind -/
def sh {β : Type} (g : Nat → β) (j k : Nat) : Nat → β := fun t => if j ≤ t ∧ t < k then g (t + 1) else g t
theorem sh_0 {β : Type} {g : Nat → β} {j : Nat} : g = sh g j j := by
  funext t; unfold sh; rw [if_neg (by omega)]
theorem sh_s {β : Type} {g g1 : Nat → β} {j k : Nat} (h : g1 = sh g j k) (hk : j ≤ k) : va_up g1 k (g1 (k + 1)) = sh g j (k + 1) := by
  funext t
  subst h
  unfold va_up sh
  by_cases e : t = k
  · subst e
    rw [if_pos rfl, if_neg (by omega), if_pos (by omega)]
  · rw [if_neg e]
    by_cases e2 : j ≤ t ∧ t < k
    · rw [if_pos e2, if_pos (by omega)]
    · rw [if_neg e2, if_neg (by omega)]
def M_drop (u : MSt) (x : Int32) : Bool × MSt :=
  if ixB x (m_nR u) = false then (false, m_s_th u 0)
  else (true, m_s_th (m_s_rc (m_s_rw (m_s_rl (m_s_rf (m_s_nR u (m_nR u - 1)) (sh (m_rf u) x.toNatClampNeg (m_nR u - 1))) (sh (m_rl u) x.toNatClampNeg (m_nR u - 1))) (sh (m_rw u) x.toNatClampNeg (m_nR u - 1))) (sh (m_rc u) x.toNatClampNeg (m_nR u - 1))) 0)
/-- the place with so many set places below it -/
def nthB (g : Nat → Bool) (k : Nat) : Nat → Option Nat
  | 0 => none
  | n + 1 => match nthB g k n with
    | some v => some v
    | none => if g n = true ∧ pcn g n = k then some n else none
theorem nthB_n {g : Nat → Bool} {k n : Nat} (h : nthB g k n = none) (h2 : g n = true → pcn g n = k → False) : nthB g k (n + 1) = none := by
  unfold nthB; rw [h]; simp only []; rw [if_neg (fun q => h2 q.1 q.2)]
theorem nthB_up {g : Nat → Bool} {k n v : Nat} (h : nthB g k n = some v) : ∀ d, nthB g k (n + d) = some v
  | 0 => h
  | d + 1 => by show nthB g k ((n + d) + 1) = _; unfold nthB; rw [nthB_up h d]
theorem nthB_at {g : Nat → Bool} {k v n : Nat} (h : nthB g k v = none) (hn : v + 1 ≤ n) (hg : g v = true) (hk : pcn g v = k) : nthB g k n = some v := by
  have h1 : nthB g k (v + 1) = some v := by unfold nthB; rw [h]; simp only []; rw [if_pos ⟨hg, hk⟩]
  have := nthB_up h1 (n - (v + 1))
  rwa [show v + 1 + (n - (v + 1)) = n by omega] at this
def oI (o : Option Nat) : Int32 := match o with
  | some v => nI v
  | none => -1
def rowN (u : MSt) (i k : Nat) : Int32 := if k = 0 then nI (m_rf u i) else if k = 1 then nI (m_rl u i) else if k = 2 then nI (pcn (tb (m_rw u i)) 64) else if k = 3 then nI (pcn (tb (m_rc u i)) 64) else oI (nthB (tb (m_rc u i)) (k - 4) (m_nV u))
def M_row (u : MSt) (x y : Int32) : Int32 := if ixB x (m_nR u) = false ∨ y < 0 then -1 else rowN u x.toNatClampNeg y.toNatClampNeg
/-- the rows x and y have a space t in common and may not meet -/
def mM (u : MSt) (t x y : Nat) : Prop := tb (m_rw u x) t = true ∧ tb (m_rw u y) t = true ∧ m_may u (16 * m_rl u x + m_rl u y) = false
theorem mM_28 {P : Nat → Prop} {j k : Nat} (h : ∀ y, y < k → j < y → ¬ P y) (h2 : ¬ P k) : ∀ y, y < k + 1 → j < y → ¬ P y := by
  intro y h1 h3
  by_cases e : y = k
  · subst e; exact h2
  · exact h y (by omega) h3
theorem mM_13 {P : Nat → Nat → Prop} {a j k n : Nat} (h : ∀ x, x < j → a ≤ x → ∀ y, x < y → y < n → ¬ P x y) (h2 : ∀ y, y < k → j < y → ¬ P j y) (hk : n ≤ k) : ∀ x, x < j + 1 → a ≤ x → ∀ y, x < y → y < n → ¬ P x y := by
  intro x h1 h3 y h4 h5
  by_cases e : x = j
  · subst e; exact h2 y (by omega) h4
  · exact h x (by omega) h3 y h4 h5
theorem mM_2 {P : Nat → Nat → Nat → Prop} {a s j n : Nat} (h : ∀ t, t < s → ∀ x y, a ≤ x → x < y → y < n → ¬ P t x y) (h2 : ∀ x, x < j → a ≤ x → ∀ y, x < y → y < n → ¬ P s x y) (hj : n ≤ j) : ∀ t, t < s + 1 → ∀ x y, a ≤ x → x < y → y < n → ¬ P t x y := by
  intro t h1 x y h3 h4 h5
  by_cases e : t = s
  · subst e; exact h2 x (by omega) h3 y h4 h5
  · exact h t (by omega) x y h3 h4 h5
theorem mlets_cg {u v : MSt} {x f : Nat} (h7 : m_seat u = m_seat v) (h8 : m_op u = m_op v) (h9 : m_un u = m_un v) : mlets u x f = mlets v x f := by
  unfold mlets; rw [h7, h8, h9]
theorem mF_cg {u v : MSt} {a f : Nat} (h1 : m_nS u = m_nS v) (h2 : m_liq u = m_liq v) (h3 : m_nV u = m_nV v) (h4 : m_lev u = m_lev v) (h5 : m_fa u = m_fa v) (h6 : m_fb u = m_fb v) (h7 : m_seat u = m_seat v) (h8 : m_op u = m_op v) (h9 : m_un u = m_un v) : mF u a f = mF v a f := by
  have e1 : (fun x => mlets u x f) = fun x => mlets v x f := funext fun x => mlets_cg h7 h8 h9
  have e2 : mS u a = mS v a := by unfold mS; rw [h1, h2]
  unfold mF mFl
  rw [e1, e2, h3, h4, h5, h6]
theorem mC_cg {u v : MSt} {x : Int64} {f : Nat} (h3 : m_nV u = m_nV v) (h4 : m_lev u = m_lev v) (h5 : m_fa u = m_fa v) (h6 : m_fb u = m_fb v) (h7 : m_seat u = m_seat v) (h8 : m_op u = m_op v) (h9 : m_un u = m_un v) : mC u x f = mC v x f := by
  unfold mC
  refine ofB_congr fun i _ => ?_
  unfold mCb
  rw [mlets_cg h7 h8 h9, h3, h4, h5, h6]
theorem mTh_cg {u v : MSt} {a : Nat} (h1 : m_nS u = m_nS v) (h2 : m_liq u = m_liq v) : mTh u a = mTh v a := by
  unfold mTh; rw [h1, h2]
/-! set -/
def mt (u : MSt) (i j : Nat) : Bool := decide (m_rf u j = i + 1) || (tb (m_rw u j) (m_fa u i) || tb (m_rw u j) (m_fb u i))
noncomputable def sF (u v : MSt) (j : Nat) : Int64 := mF v (m_rl u j) (m_rf u j)
noncomputable def sC (u v : MSt) (j : Nat) : Int64 := mC v (mF v (m_rl u j) (m_rf u j)) (m_rf u j)
def mK (u : MSt) (g : Nat → Int64) (x y : Nat) : Prop := m_rf u x = m_rf u y ∧ ¬ (g x &&& g y) = 0 ∧ m_may u (16 * m_rl u x + m_rl u y) = false
theorem up_if {β : Type} {g r F : Nat → β} {t : Nat → Bool} {k : Nat} (h : ∀ j, g j = if j < k ∧ t j = true then F j else r j) (ht : t k = true) : ∀ j, va_up g k (F k) j = if j < k + 1 ∧ t j = true then F j else r j := by
  intro j
  unfold va_up
  by_cases e : j = k
  · subst e; rw [if_pos rfl, if_pos ⟨by omega, ht⟩]
  · rw [if_neg e, h j]
    by_cases e2 : j < k ∧ t j = true
    · rw [if_pos e2, if_pos ⟨by omega, e2.2⟩]
    · rw [if_neg e2, if_neg (fun q => e2 ⟨by omega, q.2⟩)]
theorem up_no {β : Type} {g r F : Nat → β} {t : Nat → Bool} {k : Nat} (h : ∀ j, g j = if j < k ∧ t j = true then F j else r j) (ht : t k = false) : ∀ j, g j = if j < k + 1 ∧ t j = true then F j else r j := by
  intro j
  rw [h j]
  by_cases e : j = k
  · subst e; rw [if_neg (by omega), if_neg (fun q => absurd (q.2.symm.trans ht) (by decide))]
  · by_cases e2 : j < k ∧ t j = true
    · rw [if_pos e2, if_pos ⟨by omega, e2.2⟩]
    · rw [if_neg e2, if_neg (fun q => e2 ⟨by omega, q.2⟩)]
theorem up_at {β : Type} {g r F : Nat → β} {t : Nat → Bool} {k : Nat} (h : ∀ j, g j = if j < k ∧ t j = true then F j else r j) : g k = r k := by
  rw [h k, if_neg (by omega)]
theorem MOk_set {u : MSt} {o : Nat → Bool} {g3 g4 : Nat → Int64} {t : Nat} {w : Nat → Bool} (hu : MOk u) (ht : t ≤ 975) : MOk (m_mk (m_liq u) (m_lev u) (m_nS u) (m_fa u) (m_fb u) (m_seat u) o (m_un u) (m_nV u) (m_may u) (m_nR u) (m_rf u) (m_rl u) g3 g4 (m_cul u) (m_gu u) t 0 w) := by
  obtain ⟨k1, k2, k3, k4, k5, k6, k7, k8, k9, k10, k11⟩ := hu
  exact ⟨k1, k2, k3, k4, k5, k6, k7, k8, k9, ht, k11⟩
section KK
variable {P : Nat → Nat → Prop} {n j k : Nat} {Z : Prop} {b : Bool}
theorem kk_1 (h : b = true ↔ (Z ∧ ∀ x y, x < j → x < y → y < n → ¬ P x y)) : b = true ↔ (Z ∧ (∀ x y, x < j → x < y → y < n → ¬ P x y) ∧ ∀ y, j < y → y < j + 1 → ¬ P j y) :=
  ⟨fun q => ⟨(h.mp q).1, (h.mp q).2, fun y h1 h2 => absurd h1 (by omega)⟩, fun q => h.mpr ⟨q.1, q.2.1⟩⟩
theorem kk_k {c : Bool} (h : b = true ↔ (Z ∧ (∀ x y, x < j → x < y → y < n → ¬ P x y) ∧ ∀ y, j < y → y < k → ¬ P j y)) (hb : b = true) (hjk : j < k) (hc : c = true ↔ ¬ P j k) : c = true ↔ (Z ∧ (∀ x y, x < j → x < y → y < n → ¬ P x y) ∧ ∀ y, j < y → y < k + 1 → ¬ P j y) := by
  obtain ⟨z1, z2, z3⟩ := h.mp hb
  constructor
  · intro q
    refine ⟨z1, z2, fun y h1 h2 => ?_⟩
    by_cases e : y = k
    · subst e; exact hc.mp q
    · exact z3 y h1 (by omega)
  · intro q
    exact hc.mpr (q.2.2 k hjk (by omega))
theorem kk_s (h : b = true ↔ (Z ∧ (∀ x y, x < j → x < y → y < n → ¬ P x y) ∧ ∀ y, j < y → y < k → ¬ P j y)) (hkn : k ≤ n) (hk : n ≤ k ∨ b = false) : b = true ↔ (Z ∧ ∀ x y, x < j + 1 → x < y → y < n → ¬ P x y) := by
  constructor
  · intro q
    obtain ⟨z1, z2, z3⟩ := h.mp q
    refine ⟨z1, fun x y h1 h2 h3 => ?_⟩
    have hk : n ≤ k := hk.elim id (fun e => absurd (q.symm.trans e) (by decide))
    by_cases e : x = j
    · subst e; exact z3 y h2 (by omega)
    · exact z2 x y (by omega) h2 h3
  · intro q
    exact h.mpr ⟨q.1, fun x y h1 h2 h3 => q.2 x y (by omega) h2 h3, fun y h1 h2 => q.2 j y (by omega) h1 (by omega)⟩
theorem kk_e (h : b = true ↔ (Z ∧ ∀ x y, x < j → x < y → y < n → ¬ P x y)) (hj : n ≤ j ∨ b = false) : b = true ↔ (Z ∧ ∀ x y, x < y → y < n → ¬ P x y) := by
  constructor
  · intro q
    obtain ⟨z1, z2⟩ := h.mp q
    have hj : n ≤ j := hj.elim id (fun e => absurd (q.symm.trans e) (by decide))
    exact ⟨z1, fun x y h1 h2 => z2 x y (by omega) h1 h2⟩
  · intro q
    exact h.mpr ⟨q.1, fun x y _ h2 h3 => q.2 x y h2 h3⟩
end KK
/-! safe -/
theorem pcn_st {g : Nat → Bool} {a : Nat} (h : g a = true) : pcn g (a + 1) = pcn g a + 1 := by show pcn g a + (if g a = true then 1 else 0) = _; rw [if_pos h]
theorem pcn_sf {g : Nat → Bool} {a : Nat} (h : g a = false) : pcn g (a + 1) = pcn g a := by show pcn g a + (if g a = true then 1 else 0) = _; rw [if_neg (fun q => absurd (q.symm.trans h) (by decide))]; rfl
theorem pcn_mono {g : Nat → Bool} {a : Nat} : ∀ {b : Nat}, a ≤ b → pcn g a ≤ pcn g b
  | 0, h => by rw [show a = 0 by omega]; exact Nat.le_refl _
  | b + 1, h => by
    rcases Nat.lt_or_ge a (b + 1) with q | q
    · have := pcn_mono (g := g) (a := a) (b := b) (by omega)
      have h2 : pcn g b ≤ pcn g (b + 1) := Nat.le_add_right _ _
      omega
    · rw [show a = b + 1 by omega]; exact Nat.le_refl _
theorem pcn_lt {g : Nat → Bool} {a b : Nat} (h : g a = true) (hb : a < b) : pcn g a < pcn g b := by
  have h1 : pcn g (a + 1) = pcn g a + 1 := pcn_st h
  have h2 := pcn_mono (g := g) (show a + 1 ≤ b by omega)
  omega
theorem pcn_inv {g : Nat → Bool} {r : Nat} : ∀ {m : Nat}, r < pcn g m → ∃ a, a < m ∧ g a = true ∧ pcn g a = r
  | 0, h => absurd h (Nat.not_lt_zero _)
  | m + 1, h => by
    rcases Nat.lt_or_ge r (pcn g m) with q | q
    · obtain ⟨a, h1, h2, h3⟩ := pcn_inv q
      exact ⟨a, by omega, h2, h3⟩
    · unfold pcn at h
      cases hg : g m with
      | true => rw [hg] at h; simp at h; exact ⟨m, by omega, hg, by omega⟩
      | false => rw [hg] at h; simp at h; omega
theorem pcn_eq {g : Nat → Bool} {a b : Nat} (ha : g a = true) (hb : g b = true) (h : pcn g a = pcn g b) : a = b := by
  rcases Nat.lt_trichotomy a b with q | q | q
  · have := pcn_lt ha q; omega
  · exact q
  · have := pcn_lt hb q; omega
theorem pcn_1 {g : Nat → Bool} (h0 : g 0 = false) : ∀ a, pcn g (a + 1) ≤ a
  | 0 => by unfold pcn; rw [h0]; exact Nat.le_refl _
  | a + 1 => by have := pcn_1 h0 a; unfold pcn; split <;> omega
/-- the rows so far: of the failures below f all, of f those of the liquids below a -/
def RT (th : Nat → Bool) (F C : Nat → Nat → Int64) (f a n : Nat) (g1 g2 : Nat → Nat) (g3 g4 : Nat → Int64) : Prop :=
  n = f * pcn th 16 + pcn th a ∧ ∀ x y, th y = true → (x < f ∧ y < 16 ∨ x = f ∧ y < a) → g1 (x * pcn th 16 + pcn th y) = x ∧ g2 (x * pcn th 16 + pcn th y) = y ∧ g3 (x * pcn th 16 + pcn th y) = F y x ∧ g4 (x * pcn th 16 + pcn th y) = C y x
theorem RT_0 {th : Nat → Bool} {F C : Nat → Nat → Int64} {g1 g2 : Nat → Nat} {g3 g4 : Nat → Int64} (h0 : th 0 = false) : RT th F C 0 1 0 g1 g2 g3 g4 := by
  refine ⟨by rw [pcn_sf h0, Nat.zero_mul]; rfl, fun x y h1 h2 => ?_⟩
  rcases h2 with h2 | ⟨-, h2⟩
  · exact absurd h2.1 (Nat.not_lt_zero _)
  · rw [show y = 0 by omega, h0] at h1; cases h1
theorem RT_f {th : Nat → Bool} {F C : Nat → Nat → Int64} {f a n : Nat} {g1 g2 : Nat → Nat} {g3 g4 : Nat → Int64} (h : RT th F C f a n g1 g2 g3 g4) (ha : th a = false) : RT th F C f (a + 1) n g1 g2 g3 g4 := by
  refine ⟨by rw [h.1, pcn_sf ha], fun x y h1 h2 => h.2 x y h1 ?_⟩
  rcases h2 with h2 | ⟨h2, h3⟩
  · exact Or.inl h2
  · refine Or.inr ⟨h2, ?_⟩
    rcases Nat.lt_or_ge y a with q | q
    · exact q
    · rw [show y = a by omega, ha] at h1; cases h1
theorem RT_old {th : Nat → Bool} {f a x y : Nat} (h1 : th y = true) (h2 : x < f ∧ y < 16 ∨ x = f ∧ y < a) : x * pcn th 16 + pcn th y < f * pcn th 16 + pcn th a := by
  rcases h2 with ⟨h2, h3⟩ | ⟨h2, h3⟩
  · have := pcn_lt h1 h3
    have h4 := Nat.mul_le_mul_right (pcn th 16) (show x + 1 ≤ f by omega)
    rw [Nat.add_mul] at h4
    omega
  · have := pcn_lt h1 h3
    subst h2; omega
theorem RT_t {th : Nat → Bool} {F C : Nat → Nat → Int64} {f a n : Nat} {g1 g2 : Nat → Nat} {g3 g4 : Nat → Int64} (h : RT th F C f a n g1 g2 g3 g4) (ha : th a = true) : RT th F C f (a + 1) (n + 1) (va_up g1 n f) (va_up g2 n a) (va_up g3 n (F a f)) (va_up g4 n (C a f)) := by
  refine ⟨by rw [h.1, pcn_st ha, Nat.add_assoc], fun x y h1 h2 => ?_⟩
  by_cases e : x = f ∧ y = a
  · obtain ⟨rfl, rfl⟩ := e
    rw [← h.1, va_up_self, va_up_self, va_up_self, va_up_self]
    exact ⟨rfl, rfl, rfl, rfl⟩
  · have h3 : x < f ∧ y < 16 ∨ x = f ∧ y < a := by
      rcases h2 with h2 | ⟨h2, h3⟩
      · exact Or.inl h2
      · refine Or.inr ⟨h2, ?_⟩
        have : y ≠ a := fun q => e ⟨h2, q⟩
        omega
    have h4 := RT_old h1 h3
    rw [← h.1] at h4
    have h5 : x * pcn th 16 + pcn th y ≠ n := Nat.ne_of_lt h4
    rw [va_up_ne _ _ h5, va_up_ne _ _ h5, va_up_ne _ _ h5, va_up_ne _ _ h5]
    exact h.2 x y h1 h3
theorem RT_n {th : Nat → Bool} {F C : Nat → Nat → Int64} {f n : Nat} {g1 g2 : Nat → Nat} {g3 g4 : Nat → Int64} (h : RT th F C f 16 n g1 g2 g3 g4) (h0 : th 0 = false) : RT th F C (f + 1) 1 n g1 g2 g3 g4 := by
  refine ⟨by rw [h.1, Nat.add_mul, show pcn th 1 = 0 by rw [pcn, h0]; rfl]; omega, fun x y h1 h2 => h.2 x y h1 ?_⟩
  rcases h2 with ⟨h2, h3⟩ | ⟨h2, h3⟩
  · by_cases e : x = f
    · exact Or.inr ⟨e, h3⟩
    · exact Or.inl ⟨by omega, h3⟩
  · rw [show y = 0 by omega, h0] at h1; cases h1
theorem RT_lt {th : Nat → Bool} {F C : Nat → Nat → Int64} {f a n : Nat} {g1 g2 : Nat → Nat} {g3 g4 : Nat → Int64} (h : RT th F C f a n g1 g2 g3 g4) (h0 : th 0 = false) (hf : f ≤ 64) (h1 : 1 ≤ a) (ha : a ≤ 15) : n < 975 := by
  have q1 : pcn th 16 ≤ 15 := pcn_1 h0 15
  have q2 : pcn th a ≤ a - 1 := by
    have := pcn_1 h0 (a - 1)
    rwa [show a - 1 + 1 = a by omega] at this
  have q3 := Nat.mul_le_mul hf q1
  have := h.1
  omega
theorem RT_le {th : Nat → Bool} {F C : Nat → Nat → Int64} {f a n : Nat} {g1 g2 : Nat → Nat} {g3 g4 : Nat → Int64} (h : RT th F C f a n g1 g2 g3 g4) (h0 : th 0 = false) (hf : f ≤ 64) (ha : a ≤ 16) : n ≤ 975 := by
  have q1 : pcn th 16 ≤ 15 := pcn_1 h0 15
  have q2 : pcn th a ≤ pcn th 16 := pcn_mono ha
  have q3 := Nat.mul_le_mul hf q1
  have := h.1
  omega
theorem up_bd {g : Nat → Nat} {M k x : Nat} (h : ∀ j, g j < M) (hx : x < M) : ∀ j, va_up g k x j < M := by
  intro j; unfold va_up; split
  · exact hx
  · exact h j
theorem MOk_safe {u : MSt} {n : Nat} {g1 g2 cu : Nat → Nat} {g3 g4 : Nat → Int64} {b : Bool} {w : Nat → Bool} (hu : MOk u) (hn : n ≤ 975) (h1 : ∀ j, g1 j < 65) (h2 : ∀ j, g2 j < 16) : MOk (m_mk (m_liq u) (m_lev u) (m_nS u) (m_fa u) (m_fb u) (m_seat u) (m_op u) (m_un u) (m_nV u) (m_may u) n g1 g2 g3 g4 cu b (m_te u) 0 w) := by
  obtain ⟨k1, k2, k3, k4, k5, k6, k7, k8, k9, k10, k11⟩ := hu
  exact ⟨k1, k2, hn, k4, k5, k6, h1, h2, k9, k10, k11⟩
theorem mTh_0 (u : MSt) : mTh u 0 = false := by unfold mTh; simp
/-- in failure f the liquids a and b are in space t and may not meet -/
def mCl (u : MSt) (f t a b : Nat) : Prop := mTh u a = true ∧ mTh u b = true ∧ a < b ∧ b < 16 ∧ tb (mF u a f) t = true ∧ tb (mF u b f) t = true ∧ m_may u (16 * a + b) = false
def mCul (u : MSt) (f t a b : Nat) : Prop := t < m_nS u ∧ mCl u f t a b ∧ (∀ t2, t2 < t → ∀ x y, ¬ mCl u f t2 x y) ∧ (∀ x, x < a → ∀ y, ¬ mCl u f t x y) ∧ ∀ y, y < b → ¬ mCl u f t a y
def mNo (u : MSt) (f : Nat) : Prop := ∀ t a b, t < m_nS u → ¬ mCl u f t a b
abbrev cu4 (c : Nat → Nat) (f t a b : Nat) : Nat → Nat := va_up (va_up (va_up (va_up c 0 f) 1 t) 2 a) 3 b
def mG (u : MSt) (f : Nat) (b : Bool) (cu : Nat → Nat) : Prop := (b = false ∧ cu = m_cul u ∧ ∀ x, x < f → mNo u x) ∨ (b = true ∧ ∃ f0 t a c, f = f0 + 1 ∧ (∀ x, x < f0 → mNo u x) ∧ mCul u f0 t a c ∧ cu = cu4 (m_cul u) f0 t a c)
/-- what meet says of the rows of one failure -/
theorem mG_step {u U : MSt} {f n n2 : Nat} {g1 g2 h1 h2 : Nat → Nat} {g3 g4 h3 h4 : Nat → Int64} {b0 b : Bool} {cu0 cu : Nat → Nat} (hg : mG u f b0 cu0) (hb0 : b0 = false)
    (ha : RT (mTh u) (mF u) (fun a x => mC u (mF u a x) x) f 1 n g1 g2 g3 g4) (hR : RT (mTh u) (mF u) (fun a x => mC u (mF u a x) x) f 16 n2 h1 h2 h3 h4)
    (e1 : m_nS U = m_nS u) (e2 : m_nR U = n2) (e3 : m_rw U = h3) (e4 : m_rl U = h2) (e5 : m_may U = m_may u) (e6 : m_cul U = cu0)
    (hm : (b = false ∧ cu = m_cul U ∧ ∀ t x y, t < m_nS U → n ≤ x → x < y → y < m_nR U → ¬ mM U t x y) ∨ (b = true ∧ ∃ t x y, t < m_nS U ∧ n ≤ x ∧ x < y ∧ y < m_nR U ∧ mM U t x y ∧ (∀ t2, t2 < t → ∀ x2 y2, n ≤ x2 → x2 < y2 → y2 < m_nR U → ¬ mM U t2 x2 y2) ∧ (∀ x2, x2 < x → n ≤ x2 → ∀ y2, x2 < y2 → y2 < m_nR U → ¬ mM U t x2 y2) ∧ (∀ y2, y2 < y → x < y2 → ¬ mM U t x y2) ∧ cu = cu4 (m_cul U) f t (m_rl U x) (m_rl U y))) : mG u (f + 1) b cu := by
  obtain ⟨-, ecu, hno⟩ : b0 = false ∧ cu0 = m_cul u ∧ ∀ x, x < f → mNo u x := by
    rcases hg with q | q
    · exact q
    · exact absurd (hb0.symm.trans q.1) (by decide)
  have hn : n = f * pcn (mTh u) 16 := by
    have := ha.1
    rw [show pcn (mTh u) 1 = 0 by rw [pcn, mTh_0]; rfl] at this
    omega
  have hn2 := hR.1
  -- a clash of liquids is one of rows
  have to : ∀ t a c, mCl u f t a c → n ≤ f * pcn (mTh u) 16 + pcn (mTh u) a ∧ f * pcn (mTh u) 16 + pcn (mTh u) a < f * pcn (mTh u) 16 + pcn (mTh u) c ∧ f * pcn (mTh u) 16 + pcn (mTh u) c < m_nR U ∧ mM U t (f * pcn (mTh u) 16 + pcn (mTh u) a) (f * pcn (mTh u) 16 + pcn (mTh u) c) := by
    intro t a c ⟨q1, q2, q3, q4, q5, q6, q7⟩
    have p1 := pcn_lt q1 q3
    have p2 := pcn_lt q2 q4
    obtain ⟨-, r2, r3, -⟩ := hR.2 f a q1 (Or.inr ⟨rfl, by omega⟩)
    obtain ⟨-, s2, s3, -⟩ := hR.2 f c q2 (Or.inr ⟨rfl, q4⟩)
    refine ⟨by omega, by omega, by omega, ?_⟩
    unfold mM
    rw [e3, e4, e5, r2, r3, s2, s3]
    exact ⟨q5, q6, q7⟩
  -- and back
  have fro : ∀ t x y, n ≤ x → x < y → y < m_nR U → mM U t x y → ∃ a c, x = f * pcn (mTh u) 16 + pcn (mTh u) a ∧ y = f * pcn (mTh u) 16 + pcn (mTh u) c ∧ mCl u f t a c ∧ m_rl U x = a ∧ m_rl U y = c := by
    intro t x y q1 q2 q3 q4
    obtain ⟨a, a1, a2, a3⟩ := pcn_inv (g := mTh u) (r := x - n) (m := 16) (by omega)
    obtain ⟨c, c1, c2, c3⟩ := pcn_inv (g := mTh u) (r := y - n) (m := 16) (by omega)
    have ex : x = f * pcn (mTh u) 16 + pcn (mTh u) a := by omega
    have ey : y = f * pcn (mTh u) 16 + pcn (mTh u) c := by omega
    obtain ⟨-, r2, r3, -⟩ := hR.2 f a a2 (Or.inr ⟨rfl, a1⟩)
    obtain ⟨-, s2, s3, -⟩ := hR.2 f c c2 (Or.inr ⟨rfl, c1⟩)
    have hac : a < c := by
      rcases Nat.lt_or_ge a c with z | z
      · exact z
      · have := pcn_mono (g := mTh u) z; omega
    unfold mM at q4
    rw [e3, e4, e5, ex, ey, r2, r3, s2, s3] at q4
    refine ⟨a, c, ex, ey, ⟨a2, c2, hac, c1, q4.1, q4.2.1, q4.2.2⟩, ?_, ?_⟩
    · rw [e4, ex, r2]
    · rw [e4, ey, s2]
  rcases hm with ⟨q1, q2, q3⟩ | ⟨q1, t, x, y, p1, p2, p3, p4, p5, p6, p7, p8, p9⟩
  · refine Or.inl ⟨q1, by rw [q2, e6, ecu], fun z hz => ?_⟩
    by_cases e : z = f
    · subst e
      intro t a c ht hc
      obtain ⟨r1, r2, r3, r4⟩ := to t a c hc
      exact q3 t _ _ (by rw [e1]; exact ht) r1 r2 r3 r4
    · exact hno z (by omega)
  · obtain ⟨a, c, ex, ey, hcl, ra, rc⟩ := fro t x y p2 p3 p4 p5
    refine Or.inr ⟨q1, f, t, a, c, rfl, hno, ⟨by rw [← e1]; exact p1, hcl, ?_, ?_, ?_⟩, by rw [p9, ra, rc, e6, ecu]⟩
    · intro t2 ht x2 y2 hc
      obtain ⟨r1, r2, r3, r4⟩ := to t2 x2 y2 hc
      exact p6 t2 ht _ _ r1 r2 r3 r4
    · intro x2 hx y2 hc
      obtain ⟨r1, r2, r3, r4⟩ := to t x2 y2 hc
      have := pcn_lt hc.1 hx
      exact p7 _ (by omega) r1 _ r2 r3 r4
    · intro y2 hy hc
      obtain ⟨r1, r2, r3, r4⟩ := to t a y2 hc
      have := pcn_lt hc.2.1 hy
      rw [ex] at p8
      exact p8 _ (by omega) r2 r4
set_option maxHeartbeats 4000000 in
set_option maxRecDepth 100000 in
theorem c_M_isSpace (l : Launch) (dC : Nat → ClassId) (dI : Nat → Nat → Nat) (q : MA) (u : MSt) (x : Int32) : Met l y_M_isSpace w_M_isSpace ({ frames := 0, cells := 0, slots := 0, locals := 0 }) (sPc (dC, dI) vwCl (tM q) (wM q u) [Value.ref (ma_o q), Value.int x]) (vp_Si (fun r : Int32 => r = bI (ixB x (m_nS u)))) 0 0 (fun _ => False) := by
  refine Met.ofW (cc := b_M_isSpace) (maxL := 2) (ret := (some .boolean)) (by decide) rfl ?_
  intro p e s m args below meth c s₁ B hml hv
  obtain ⟨rfl, hP, hK, hN⟩ := hv
  have hx := B.exec
  have hb := B.bytes
  have hr := B.returns
  have hts := atoms_spec (ws := w_M_isSpace) B.pre
  have hown : s.vm.findClass "SeatProofsModel" = some m.cls := findClass_of_methodNamed B.named
  have hlocks := B.notSynchronized
  have hl := lv_entry ([Value.ref (ma_o q), Value.int x]) (n := 2) (Nat.le_of_ble_eq_true rfl)
  rw [lg_entry_eq]
  generalize (lg_sl ([Value.ref (ma_o q), Value.int x]) ++ List.replicate (2 - (lg_sl ([Value.ref (ma_o q), Value.int x])).length) Slot.unset).toArray = ls at hl ⊢
  have hl : lv_has ls 2 [(0, .ref (ma_o q)), (1, .int x)] := hl
  refine lv_iload_n hx hb d_M_isSpace_0 rfl (lv_at hl 1 rfl) ?_
  refine lv_if_lt (tgt := 16) hx hb d_M_isSpace_1 (by decide) (fun c_1 => ?_) (fun c_1 => ?_)
  · refine lv_iconst (v := nI 0) hx hb d_M_isSpace_16 (by decide) ?_
    refine tp_i (bI false) (by decide) ?_
    exact W.zret hx hb hr (bI_narrow _) (fun t9 ht9 _ => ⟨_, rfl, (by simp [ixB, c_1]), ht9⟩) (fun _ h => by cases h) d_M_isSpace_17
  · refine lv_iload_n hx hb d_M_isSpace_4 rfl (lv_at hl 1 rfl) ?_
    refine lv_aload_n hx hb d_M_isSpace_5 rfl (lv_at hl 0 rfl) ?_
    refine va_get (D := (dC, dI)) (ci := 4) (v := .int (nI (m_nS u))) (C := "SeatProofsModel") (T := F_M) (N := 20) hx hb hts (iu_M _) hown hK hP 0 rfl rfl 2 (by decide) (hts _ (List.mem_cons_of_mem _ iw_442)) (fun _ h9 => h9) rfl d_M_isSpace_6 ?_
    refine lv_icmp_ge (tgt := 16) hx hb d_M_isSpace_9 (by decide) (fun c_2 => ?_) (fun c_2 => ?_)
    · refine lv_iconst (v := nI 0) hx hb d_M_isSpace_16 (by decide) ?_
      refine tp_i (bI false) (by decide) ?_
      exact W.zret hx hb hr (bI_narrow _) (fun t9 ht9 _ => ⟨_, rfl, (by simp [ixB, c_1, c_2]), ht9⟩) (fun _ h => by cases h) d_M_isSpace_17
    · refine lv_iconst (v := nI 1) hx hb d_M_isSpace_12 (by decide) ?_
      refine lv_goto (tgt := 17) hx hb d_M_isSpace_13 (by decide) ?_
      refine tp_i (bI true) (by decide) ?_
      exact W.zret hx hb hr (bI_narrow _) (fun t9 ht9 _ => ⟨_, rfl, (by simp [ixB, c_1, c_2]), ht9⟩) (fun _ h => by cases h) d_M_isSpace_17
set_option maxHeartbeats 4000000 in
set_option maxRecDepth 100000 in
theorem c_M_has (l : Launch) (x : Int64) (k : Nat) (hk : k < 64) : Met l y_M_has w_M_has ({ frames := 0, cells := 0, slots := 0, locals := 0 }) (va_Pc [Value.long x, Value.int (nI k)] NW) (vp_Si (fun r : Int32 => r = bI (tb x k))) 0 0 (fun _ => False) := by
  refine Met.ofW (cc := b_M_has) (maxL := 3) (ret := (some .boolean)) (by decide) rfl ?_
  intro p e s m args below meth c s₁ B hml hv
  obtain ⟨rfl, hN⟩ := hv
  have hx := B.exec
  have hb := B.bytes
  have hr := B.returns
  have hts := atoms_spec (ws := w_M_has) B.pre
  have hown : s.vm.findClass "SeatProofsModel" = some m.cls := findClass_of_methodNamed B.named
  have hlocks := B.notSynchronized
  have hl := lv_entry ([Value.long x, Value.int (nI k)]) (n := 3) (Nat.le_of_ble_eq_true rfl)
  rw [lg_entry_eq]
  generalize (lg_sl ([Value.long x, Value.int (nI k)]) ++ List.replicate (3 - (lg_sl ([Value.long x, Value.int (nI k)])).length) Slot.unset).toArray = ls at hl ⊢
  have hl : lv_has ls 3 [(0, .long x), (2, .int (nI k))] := hl
  refine lv_lload_n hx hb d_M_has_0 rfl (lv_at hl 0 rfl) ?_
  refine lv_iload_n hx hb d_M_has_1 rfl (lv_at hl 1 rfl) ?_
  refine lv_lushr (v := (x.toUInt64 >>> ((nI k).toInt64.toUInt64 &&& Int64.toUInt64 63)).toInt64) hx hb d_M_has_2 rfl ?_
  refine lv_lconst (v := 1) hx hb d_M_has_3 (by decide) ?_
  refine lv_land hx hb d_M_has_4 ?_
  refine lv_lconst (v := 1) hx hb d_M_has_5 (by decide) ?_
  refine W.lcmp hx hb d_M_has_6 ?_
  refine l0_ne (tgt := 14) hx hb d_M_has_7 (by decide) (fun c_1 => ?_) (fun c_1 => ?_)
  · refine lv_iconst (v := nI 0) hx hb d_M_has_14 (by decide) ?_
    refine tp_i (bI false) (by decide) ?_
    exact W.zret hx hb hr (bI_narrow _) (fun t9 ht9 _ => ⟨_, rfl, (by rw [ts_nt (fun h => c_1 ((tb_shr1 x hk).mpr h))]), ht9⟩) (fun _ h => by cases h) d_M_has_15
  · refine lv_iconst (v := nI 1) hx hb d_M_has_10 (by decide) ?_
    refine lv_goto (tgt := 15) hx hb d_M_has_11 (by decide) ?_
    refine tp_i (bI true) (by decide) ?_
    exact W.zret hx hb hr (bI_narrow _) (fun t9 ht9 _ => ⟨_, rfl, (by rw [(tb_shr1 x hk).mp c_1]), ht9⟩) (fun _ h => by cases h) d_M_has_15
set_option maxHeartbeats 4000000 in
set_option maxRecDepth 100000 in
theorem c_M_lets (l : Launch) (dC : Nat → ClassId) (dI : Nat → Nat → Nat) (q : MA) (u : MSt) (v f : Nat) (hu : MOk u) (hv : v < 64) (hf : f < 65) : Met l y_M_lets w_M_lets ({ frames := 0, cells := 0, slots := 0, locals := 0 }) (sPc (dC, dI) vwCl (tM q) (wM q u) [Value.ref (ma_o q), Value.int (nI v), Value.int (nI f)]) (vp_Si (fun r : Int32 => r = bI (mlets u v f))) 0 0 (fun _ => False) := by
  refine Met.ofW (cc := b_M_lets) (maxL := 4) (ret := (some .boolean)) (by decide) rfl ?_
  intro p e s m args below meth c s₁ B hml hv
  obtain ⟨rfl, hP, hK, hN⟩ := hv
  have hx := B.exec
  have hb := B.bytes
  have hr := B.returns
  have hts := atoms_spec (ws := w_M_lets) B.pre
  have hown : s.vm.findClass "SeatProofsModel" = some m.cls := findClass_of_methodNamed B.named
  have hlocks := B.notSynchronized
  have hl := lv_entry ([Value.ref (ma_o q), Value.int (nI v), Value.int (nI f)]) (n := 4) (Nat.le_of_ble_eq_true rfl)
  rw [lg_entry_eq]
  generalize (lg_sl ([Value.ref (ma_o q), Value.int (nI v), Value.int (nI f)]) ++ List.replicate (4 - (lg_sl ([Value.ref (ma_o q), Value.int (nI v), Value.int (nI f)])).length) Slot.unset).toArray = ls at hl ⊢
  have hl : lv_has ls 4 [(0, .ref (ma_o q)), (1, .int (nI v)), (2, .int (nI f))] := hl
  obtain ⟨k1, k2, k3, k4, k5, k6, k7, k8, k9, k10, k11⟩ := id hu
  refine lv_iload_n hx hb d_M_lets_0 rfl (lv_at hl 2 rfl) ?_
  refine lv_iload_n hx hb d_M_lets_1 rfl (lv_at hl 1 rfl) ?_
  refine lv_iconst (v := nI 1) hx hb d_M_lets_2 (by decide) ?_
  refine lv_iadd hx hb d_M_lets_3 ?_
  refine tp_i (nI (v + 1)) (nI_add _ _) ?_
  have L12 : ∀ (b : Bool), (b = decide (f = v + 1)) → ∀ (ls : Array Slot), lv_has ls 4 [(0, .ref (ma_o q)), (1, .int (nI v)), (2, .int (nI f))] → W p l e (headSpec w_M_lets ({ frames := 0, cells := 0, slots := 0, locals := 0 })).room s m [Value.ref (ma_o q), Value.int (nI v), Value.int (nI f)].toArray below meth c s.heap [] 0 0 (MQ below (vp_Si (fun r : Int32 => r = bI (mlets u v f))) [Value.ref (ma_o q), Value.int (nI v), Value.int (nI f)].toArray s 0 0 (fun _ => False)) (F0 m 12 ls [.int (bI b)]) := by
    intro b hbf ls hl
    refine lv_istore_n (lv' := [(3, .int (bI b)), (0, .ref (ma_o q)), (1, .int (nI v)), (2, .int (nI f))]) hx hb d_M_lets_12 rfl hl (by decide) rfl (fun ls hl => ?_)
    refine lv_aload_n hx hb d_M_lets_13 rfl (lv_at hl 1 rfl) ?_
    refine va_get (D := (dC, dI)) (ci := 4) (v := .ref (ma_seat q)) (C := "SeatProofsModel") (T := F_M) (N := 20) hx hb hts (iu_M _) hown hK hP 0 rfl rfl 5 (by decide) (hts _ (List.mem_cons_of_mem _ iw_445)) (fun _ h9 => h9) rfl d_M_lets_14 ?_
    refine lv_iload_n hx hb d_M_lets_17 rfl (lv_at hl 2 rfl) ?_
    refine ld_i hx hb hK hP 5 0 rfl rfl (nI (m_seat u v)) (by omega) (by decide) rfl d_M_lets_18 ?_
    refine lv_iconst (v := nI 2) hx hb d_M_lets_19 (by decide) ?_
    refine nv_ne (tgt := 34) hx hb d_M_lets_20 (by decide) (by have := k11 v; omega) (by omega) (fun c_1 => ?_) (fun c_1 => ?_)
    · refine lv_aload_n hx hb d_M_lets_34 rfl (lv_at hl 1 rfl) ?_
      refine va_get (D := (dC, dI)) (ci := 4) (v := .ref (ma_un q)) (C := "SeatProofsModel") (T := F_M) (N := 20) hx hb hts (iu_M _) hown hK hP 0 rfl rfl 7 (by decide) (hts _ (List.mem_cons_of_mem _ iw_447)) (fun _ h9 => h9) rfl d_M_lets_35 ?_
      refine lv_iload_n hx hb d_M_lets_38 rfl (lv_at hl 2 rfl) ?_
      refine ld_z hx hb hK hP 7 2 rfl rfl (bI (m_un u v)) (by omega) (by decide) rfl d_M_lets_39 ?_
      refine b0_ne (tgt := 53) hx hb d_M_lets_40 (by decide) (fun c_2 => ?_) (fun c_2 => ?_)
      · refine lv_iconst (v := nI 1) hx hb d_M_lets_53 (by decide) ?_
        refine lv_goto (tgt := 58) hx hb d_M_lets_54 (by decide) ?_
        refine tp_i (bI true) (by decide) ?_
        exact W.zret hx hb hr (bI_narrow _) (fun t9 ht9 _ => ⟨_, rfl, (by rw [mlets, if_neg (fun h => c_1 h.1), c_2, Bool.true_or]), ht9⟩) (fun _ h => by cases h) d_M_lets_58
      · refine lv_aload_n hx hb d_M_lets_43 rfl (lv_at hl 1 rfl) ?_
        refine va_get (D := (dC, dI)) (ci := 4) (v := .ref (ma_op q)) (C := "SeatProofsModel") (T := F_M) (N := 20) hx hb hts (iu_M _) hown hK hP 0 rfl rfl 6 (by decide) (hts _ (List.mem_cons_of_mem _ iw_446)) (fun _ h9 => h9) rfl d_M_lets_44 ?_
        refine lv_iload_n hx hb d_M_lets_47 rfl (lv_at hl 2 rfl) ?_
        refine ld_z hx hb hK hP 6 2 rfl rfl (bI (m_op u v)) (by omega) (by decide) rfl d_M_lets_48 ?_
        refine lv_iload_n hx hb d_M_lets_49 rfl (lv_at hl 0 rfl) ?_
        refine bv_eq (tgt := 57) hx hb d_M_lets_50 (by decide) (fun c_3 => ?_) (fun c_3 => ?_)
        · refine lv_iconst (v := nI 0) hx hb d_M_lets_57 (by decide) ?_
          refine tp_i (bI false) (by decide) ?_
          exact W.zret hx hb hr (bI_narrow _) (fun t9 ht9 _ => ⟨_, rfl, (by rw [mlets, if_neg (fun h => c_1 h.1), c_2, Bool.false_or, ← hbf, c_3, bne_self_eq_false]), ht9⟩) (fun _ h => by cases h) d_M_lets_58
        · refine lv_iconst (v := nI 1) hx hb d_M_lets_53 (by decide) ?_
          refine lv_goto (tgt := 58) hx hb d_M_lets_54 (by decide) ?_
          refine tp_i (bI true) (by decide) ?_
          exact W.zret hx hb hr (bI_narrow _) (fun t9 ht9 _ => ⟨_, rfl, (by rw [mlets, if_neg (fun h => c_1 h.1), c_2, Bool.false_or, ← hbf, bne_iff_ne.mpr c_3]), ht9⟩) (fun _ h => by cases h) d_M_lets_58
    · refine lv_aload_n hx hb d_M_lets_23 rfl (lv_at hl 1 rfl) ?_
      refine va_get (D := (dC, dI)) (ci := 4) (v := .ref (ma_op q)) (C := "SeatProofsModel") (T := F_M) (N := 20) hx hb hts (iu_M _) hown hK hP 0 rfl rfl 6 (by decide) (hts _ (List.mem_cons_of_mem _ iw_446)) (fun _ h9 => h9) rfl d_M_lets_24 ?_
      refine lv_iload_n hx hb d_M_lets_27 rfl (lv_at hl 2 rfl) ?_
      refine ld_z hx hb hK hP 6 2 rfl rfl (bI (m_op u v)) (by omega) (by decide) rfl d_M_lets_28 ?_
      refine b0_ne (tgt := 34) hx hb d_M_lets_29 (by decide) (fun c_4 => ?_) (fun c_4 => ?_)
      · refine lv_aload_n hx hb d_M_lets_34 rfl (lv_at hl 1 rfl) ?_
        refine va_get (D := (dC, dI)) (ci := 4) (v := .ref (ma_un q)) (C := "SeatProofsModel") (T := F_M) (N := 20) hx hb hts (iu_M _) hown hK hP 0 rfl rfl 7 (by decide) (hts _ (List.mem_cons_of_mem _ iw_447)) (fun _ h9 => h9) rfl d_M_lets_35 ?_
        refine lv_iload_n hx hb d_M_lets_38 rfl (lv_at hl 2 rfl) ?_
        refine ld_z hx hb hK hP 7 2 rfl rfl (bI (m_un u v)) (by omega) (by decide) rfl d_M_lets_39 ?_
        refine b0_ne (tgt := 53) hx hb d_M_lets_40 (by decide) (fun c_5 => ?_) (fun c_5 => ?_)
        · refine lv_iconst (v := nI 1) hx hb d_M_lets_53 (by decide) ?_
          refine lv_goto (tgt := 58) hx hb d_M_lets_54 (by decide) ?_
          refine tp_i (bI true) (by decide) ?_
          exact W.zret hx hb hr (bI_narrow _) (fun t9 ht9 _ => ⟨_, rfl, (by rw [mlets, if_neg (fun h => absurd (h.2.symm.trans c_4) (by decide)), c_5, Bool.true_or]), ht9⟩) (fun _ h => by cases h) d_M_lets_58
        · refine lv_aload_n hx hb d_M_lets_43 rfl (lv_at hl 1 rfl) ?_
          refine va_get (D := (dC, dI)) (ci := 4) (v := .ref (ma_op q)) (C := "SeatProofsModel") (T := F_M) (N := 20) hx hb hts (iu_M _) hown hK hP 0 rfl rfl 6 (by decide) (hts _ (List.mem_cons_of_mem _ iw_446)) (fun _ h9 => h9) rfl d_M_lets_44 ?_
          refine lv_iload_n hx hb d_M_lets_47 rfl (lv_at hl 2 rfl) ?_
          refine ld_z hx hb hK hP 6 2 rfl rfl (bI (m_op u v)) (by omega) (by decide) rfl d_M_lets_48 ?_
          refine lv_iload_n hx hb d_M_lets_49 rfl (lv_at hl 0 rfl) ?_
          refine bv_eq (tgt := 57) hx hb d_M_lets_50 (by decide) (fun c_6 => ?_) (fun c_6 => ?_)
          · refine lv_iconst (v := nI 0) hx hb d_M_lets_57 (by decide) ?_
            refine tp_i (bI false) (by decide) ?_
            exact W.zret hx hb hr (bI_narrow _) (fun t9 ht9 _ => ⟨_, rfl, (by rw [mlets, if_neg (fun h => absurd (h.2.symm.trans c_4) (by decide)), c_5, Bool.false_or, ← hbf, c_6, bne_self_eq_false]), ht9⟩) (fun _ h => by cases h) d_M_lets_58
          · refine lv_iconst (v := nI 1) hx hb d_M_lets_53 (by decide) ?_
            refine lv_goto (tgt := 58) hx hb d_M_lets_54 (by decide) ?_
            refine tp_i (bI true) (by decide) ?_
            exact W.zret hx hb hr (bI_narrow _) (fun t9 ht9 _ => ⟨_, rfl, (by rw [mlets, if_neg (fun h => absurd (h.2.symm.trans c_4) (by decide)), c_5, Bool.false_or, ← hbf, bne_iff_ne.mpr c_6]), ht9⟩) (fun _ h => by cases h) d_M_lets_58
      · refine lv_iconst (v := nI 0) hx hb d_M_lets_32 (by decide) ?_
        refine tp_i (bI false) (by decide) ?_
        exact W.zret hx hb hr (bI_narrow _) (fun t9 ht9 _ => ⟨_, rfl, (by rw [mlets, if_pos ⟨c_1, c_4⟩]), ht9⟩) (fun _ h => by cases h) d_M_lets_33
  refine nv_ne (tgt := 11) hx hb d_M_lets_4 (by decide) (by omega) (by omega) (fun c_7 => ?_) (fun c_7 => ?_)
  · refine lv_iconst (v := nI 0) hx hb d_M_lets_11 (by decide) ?_
    refine tp_i (bI false) (by decide) ?_
    exact L12 false (by simp [c_7]) ls (lv_sub hl [0, 1, 2] rfl)
  · refine lv_iconst (v := nI 1) hx hb d_M_lets_7 (by decide) ?_
    refine lv_goto (tgt := 12) hx hb d_M_lets_8 (by decide) ?_
    refine tp_i (bI true) (by decide) ?_
    exact L12 true (by simp [c_7]) ls (lv_sub hl [0, 1, 2] rfl)
