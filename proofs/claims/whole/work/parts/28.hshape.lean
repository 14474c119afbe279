/-! the help file: all its objects -/
abbrev sh_HelpFile (cI cL cZ : ClassId) (q : Nat) (qS : Value) (qI : Value) (qR : Value) (qT : Value) (qC : Value) (qE : Value) (qV : Value) (qQ : Value) (qN : Value) (qD : Value) (qB : Value) (qO : Bool) (qF : Int32) (qY : Int32) : va_W := [(q, .inr (0, [qS, qI, qR, qT, qC, qE, qV, qQ, qN, qD, qB, .int (bI qO), .int qF, .int qY]))]
