/-! the law: its one long -/
abbrev sh_Out (cI cL cZ : ClassId) (q : Nat) (qV : Nat → Int64) : va_W := [(q, .inl (cL, 1, .inr (.inl qV)))]
