/-- calls of nest mates private to their class: caller, pool index, method, host -/
def NL : List (String × Nat × MethodName × String) := [(RX3, 21, yX2_init, "TollAlmanac"), (RX7, 80, yX10_positionOf, "TollAlmanac"), (RX4, 114, yX10_yearIndex, "TollAlmanac"), (RX0, 69, yX10_positionOf, "TollAlmanac")]
/-- String constants: class, pool index, text; their lengths and bytes -/
def SK : List (String × Nat × String) := [(RX7, 40, "under const rule table check try else at tons cargo lock day "), (RX7, 75, "{}[]();:=<>+-*/%?.")]
def slen : List Nat := [61, 18]
def sbyt : List (List Int32) := [[117, 110, 100, 101, 114, 32, 99, 111, 110, 115, 116, 32, 114, 117, 108, 101, 32, 116, 97, 98, 108, 101, 32, 99, 104, 101, 99, 107, 32, 116, 114, 121, 32, 101, 108, 115, 101, 32, 97, 116, 32, 116, 111, 110, 115, 32, 99, 97, 114, 103, 111, 32, 108, 111, 99, 107, 32, 100, 97, 121, 32], [123, 125, 91, 93, 40, 41, 59, 58, 61, 60, 62, 43, 45, 42, 47, 37, 63, 46]]
