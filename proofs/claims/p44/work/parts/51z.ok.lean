theorem okz_all (y : Nat) (h : y < 275) : okZ y = true := by
  rcases Nat.lt_or_ge y 25 with g0 | g0
  · exact okN_ok 25 0 y okn_0 (by omega) (by omega)
  rcases Nat.lt_or_ge y 50 with g1 | g1
  · exact okN_ok 25 25 y okn_1 (by omega) (by omega)
  rcases Nat.lt_or_ge y 75 with g2 | g2
  · exact okN_ok 25 50 y okn_2 (by omega) (by omega)
  rcases Nat.lt_or_ge y 100 with g3 | g3
  · exact okN_ok 25 75 y okn_3 (by omega) (by omega)
  rcases Nat.lt_or_ge y 125 with g4 | g4
  · exact okN_ok 25 100 y okn_4 (by omega) (by omega)
  rcases Nat.lt_or_ge y 150 with g5 | g5
  · exact okN_ok 25 125 y okn_5 (by omega) (by omega)
  rcases Nat.lt_or_ge y 175 with g6 | g6
  · exact okN_ok 25 150 y okn_6 (by omega) (by omega)
  rcases Nat.lt_or_ge y 200 with g7 | g7
  · exact okN_ok 25 175 y okn_7 (by omega) (by omega)
  rcases Nat.lt_or_ge y 225 with g8 | g8
  · exact okN_ok 25 200 y okn_8 (by omega) (by omega)
  rcases Nat.lt_or_ge y 250 with g9 | g9
  · exact okN_ok 25 225 y okn_9 (by omega) (by omega)
  exact okN_ok 25 250 y okn_10 (by omega) (by omega)
