/-- calls of nest mates private to their class: caller, pool index, method, host -/
def NL : List (String × Nat × MethodName × String) := [(RX3, 21, yX2_init, "TollAlmanac"), (RX7, 80, yX10_positionOf, "TollAlmanac"), (RX4, 114, yX10_yearIndex, "TollAlmanac"), (RX0, 69, yX10_positionOf, "TollAlmanac")]
