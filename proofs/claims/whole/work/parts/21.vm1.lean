set_option maxRecDepth 100000 in
theorem vP_X6_init (pu : Nat → Option ((List Value → z_H → Prop) × (List Value → z_H → Int32))) : z_PV (m_X6_init pu) := z_PVof 37 (show (List.range 37).all (z_pck cX6_init p_X6_init) = true by decide +kernel) (fun k hk => by show p_X6_init k = none; unfold p_X6_init; rw [z_bltF hk]; rfl)
set_option maxRecDepth 100000 in
theorem vP_X6_solved (pu : Nat → Option ((List Value → z_H → Prop) × (List Value → z_H → Int32))) : z_PV (m_X6_solved pu) := z_PVof 85 (show (List.range 85).all (z_pck cX6_solved p_X6_solved) = true by decide +kernel) (fun k hk => by show p_X6_solved k = none; unfold p_X6_solved; rw [z_bltF hk]; rfl)
set_option maxRecDepth 100000 in
theorem vP_X6_prepare (pu : Nat → Option ((List Value → z_H → Prop) × (List Value → z_H → Int32))) : z_PV (m_X6_prepare pu) := z_PVof 66 (show (List.range 66).all (z_pck cX6_prepare p_X6_prepare) = true by decide +kernel) (fun k hk => by show p_X6_prepare k = none; unfold p_X6_prepare; rw [z_bltF hk]; rfl)
set_option maxRecDepth 100000 in
theorem vP_X6_worth (pu : Nat → Option ((List Value → z_H → Prop) × (List Value → z_H → Int32))) : z_PV (m_X6_worth pu) := z_PVof 64 (show (List.range 64).all (z_pck cX6_worth p_X6_worth) = true by decide +kernel) (fun k hk => by show p_X6_worth k = none; unfold p_X6_worth; rw [z_bltF hk]; rfl)
set_option maxRecDepth 100000 in
theorem vP_X6_findWorth (pu : Nat → Option ((List Value → z_H → Prop) × (List Value → z_H → Int32))) : z_PV (m_X6_findWorth pu) := z_PVof 109 (show (List.range 109).all (z_pck cX6_findWorth p_X6_findWorth) = true by decide +kernel) (fun k hk => by show p_X6_findWorth k = none; unfold p_X6_findWorth; rw [z_bltF hk]; rfl)
set_option maxRecDepth 100000 in
theorem vP_X6_ends (pu : Nat → Option ((List Value → z_H → Prop) × (List Value → z_H → Int32))) : z_PV (m_X6_ends pu) := z_PVof 41 (show (List.range 41).all (z_pck cX6_ends p_X6_ends) = true by decide +kernel) (fun k hk => by show p_X6_ends k = none; unfold p_X6_ends; rw [z_bltF hk]; rfl)
set_option maxRecDepth 100000 in
theorem vP_X7_init (pu : Nat → Option ((List Value → z_H → Prop) × (List Value → z_H → Int32))) : z_PV (m_X7_init pu) := z_PVof 87 (show (List.range 87).all (z_pck cX7_init p_X7_init) = true by decide +kernel) (fun k hk => by show p_X7_init k = none; unfold p_X7_init; rw [z_bltF hk]; rfl)
set_option maxRecDepth 100000 in
theorem vP_X7_read (pu : Nat → Option ((List Value → z_H → Prop) × (List Value → z_H → Int32))) : z_PV (m_X7_read pu) := z_PVof 100 (show (List.range 100).all (z_pck cX7_read p_X7_read) = true by decide +kernel) (fun k hk => by show p_X7_read k = none; unfold p_X7_read; rw [z_bltF hk]; rfl)
set_option maxRecDepth 100000 in
theorem vP_X7_told (pu : Nat → Option ((List Value → z_H → Prop) × (List Value → z_H → Int32))) : z_PV (m_X7_told pu) := z_PVof 47 (show (List.range 47).all (z_pck cX7_told p_X7_told) = true by decide +kernel) (fun k hk => by show p_X7_told k = none; unfold p_X7_told; rw [z_bltF hk]; rfl)
set_option maxRecDepth 100000 in
theorem vP_X7_readClause (pu : Nat → Option ((List Value → z_H → Prop) × (List Value → z_H → Int32))) : z_PV (m_X7_readClause pu) := z_PVof 53 (show (List.range 53).all (z_pck cX7_readClause p_X7_readClause) = true by decide +kernel) (fun k hk => by show p_X7_readClause k = none; unfold p_X7_readClause; rw [z_bltF hk]; rfl)
set_option maxRecDepth 100000 in
theorem vP_X7_fail (pu : Nat → Option ((List Value → z_H → Prop) × (List Value → z_H → Int32))) : z_PV (m_X7_fail pu) := z_PVof 15 (show (List.range 15).all (z_pck cX7_fail p_X7_fail) = true by decide +kernel) (fun k hk => by show p_X7_fail k = none; unfold p_X7_fail; rw [z_bltF hk]; rfl)
set_option maxRecDepth 100000 in
theorem vP_X7_readPoints (pu : Nat → Option ((List Value → z_H → Prop) × (List Value → z_H → Int32))) : z_PV (m_X7_readPoints pu) := z_PVof 58 (show (List.range 58).all (z_pck cX7_readPoints p_X7_readPoints) = true by decide +kernel) (fun k hk => by show p_X7_readPoints k = none; unfold p_X7_readPoints; rw [z_bltF hk]; rfl)
set_option maxRecDepth 100000 in
theorem vP_X7_readLine (pu : Nat → Option ((List Value → z_H → Prop) × (List Value → z_H → Int32))) : z_PV (m_X7_readLine pu) := z_PVof 116 (show (List.range 116).all (z_pck cX7_readLine p_X7_readLine) = true by decide +kernel) (fun k hk => by show p_X7_readLine k = none; unfold p_X7_readLine; rw [z_bltF hk]; rfl)
set_option maxRecDepth 100000 in
theorem vP_X7_keepLine (pu : Nat → Option ((List Value → z_H → Prop) × (List Value → z_H → Int32))) : z_PV (m_X7_keepLine pu) := z_PVof 43 (show (List.range 43).all (z_pck cX7_keepLine p_X7_keepLine) = true by decide +kernel) (fun k hk => by show p_X7_keepLine k = none; unfold p_X7_keepLine; rw [z_bltF hk]; rfl)
set_option maxRecDepth 100000 in
theorem vP_X7_readAt (pu : Nat → Option ((List Value → z_H → Prop) × (List Value → z_H → Int32))) : z_PV (m_X7_readAt pu) := z_PVof 64 (show (List.range 64).all (z_pck cX7_readAt p_X7_readAt) = true by decide +kernel) (fun k hk => by show p_X7_readAt k = none; unfold p_X7_readAt; rw [z_bltF hk]; rfl)
set_option maxRecDepth 100000 in
theorem vP_X7_readSigned (pu : Nat → Option ((List Value → z_H → Prop) × (List Value → z_H → Int32))) : z_PV (m_X7_readSigned pu) := z_PVof 42 (show (List.range 42).all (z_pck cX7_readSigned p_X7_readSigned) = true by decide +kernel) (fun k hk => by show p_X7_readSigned k = none; unfold p_X7_readSigned; rw [z_bltF hk]; rfl)
set_option maxRecDepth 100000 in
theorem vP_X7_readNumber (pu : Nat → Option ((List Value → z_H → Prop) × (List Value → z_H → Int32))) : z_PV (m_X7_readNumber pu) := z_PVof 9 (show (List.range 9).all (z_pck cX7_readNumber p_X7_readNumber) = true by decide +kernel) (fun k hk => by show p_X7_readNumber k = none; unfold p_X7_readNumber; rw [z_bltF hk]; rfl)
set_option maxRecDepth 100000 in
theorem vP_X7_isNumber (pu : Nat → Option ((List Value → z_H → Prop) × (List Value → z_H → Int32))) : z_PV (m_X7_isNumber pu) := z_PVof 37 (show (List.range 37).all (z_pck cX7_isNumber p_X7_isNumber) = true by decide +kernel) (fun k hk => by show p_X7_isNumber k = none; unfold p_X7_isNumber; rw [z_bltF hk]; rfl)
set_option maxRecDepth 100000 in
theorem vP_X7_isPointThere (pu : Nat → Option ((List Value → z_H → Prop) × (List Value → z_H → Int32))) : z_PV (m_X7_isPointThere pu) := z_PVof 25 (show (List.range 25).all (z_pck cX7_isPointThere p_X7_isPointThere) = true by decide +kernel) (fun k hk => by show p_X7_isPointThere k = none; unfold p_X7_isPointThere; rw [z_bltF hk]; rfl)
set_option maxRecDepth 100000 in
theorem vP_X7_readClose (pu : Nat → Option ((List Value → z_H → Prop) × (List Value → z_H → Int32))) : z_PV (m_X7_readClose pu) := z_PVof 26 (show (List.range 26).all (z_pck cX7_readClose p_X7_readClose) = true by decide +kernel) (fun k hk => by show p_X7_readClose k = none; unfold p_X7_readClose; rw [z_bltF hk]; rfl)
set_option maxRecDepth 100000 in
theorem vP_X7_step (pu : Nat → Option ((List Value → z_H → Prop) × (List Value → z_H → Int32))) : z_PV (m_X7_step pu) := z_PVof 205 (show (List.range 205).all (z_pck cX7_step p_X7_step) = true by decide +kernel) (fun k hk => by show p_X7_step k = none; unfold p_X7_step; rw [z_bltF hk]; rfl)
set_option maxRecDepth 100000 in
theorem vP_X7_pastBlanks (pu : Nat → Option ((List Value → z_H → Prop) × (List Value → z_H → Int32))) : z_PV (m_X7_pastBlanks pu) := z_PVof 40 (show (List.range 40).all (z_pck cX7_pastBlanks p_X7_pastBlanks) = true by decide +kernel) (fun k hk => by show p_X7_pastBlanks k = none; unfold p_X7_pastBlanks; rw [z_bltF hk]; rfl)
set_option maxRecDepth 100000 in
theorem vP_X7_pastLetters (pu : Nat → Option ((List Value → z_H → Prop) × (List Value → z_H → Int32))) : z_PV (m_X7_pastLetters pu) := z_PVof 30 (show (List.range 30).all (z_pck cX7_pastLetters p_X7_pastLetters) = true by decide +kernel) (fun k hk => by show p_X7_pastLetters k = none; unfold p_X7_pastLetters; rw [z_bltF hk]; rfl)
set_option maxRecDepth 100000 in
theorem vP_X7_pastDigits (pu : Nat → Option ((List Value → z_H → Prop) × (List Value → z_H → Int32))) : z_PV (m_X7_pastDigits pu) := z_PVof 30 (show (List.range 30).all (z_pck cX7_pastDigits p_X7_pastDigits) = true by decide +kernel) (fun k hk => by show p_X7_pastDigits k = none; unfold p_X7_pastDigits; rw [z_bltF hk]; rfl)
set_option maxRecDepth 100000 in
theorem vP_X7_isLetter (pu : Nat → Option ((List Value → z_H → Prop) × (List Value → z_H → Int32))) : z_PV (m_X7_isLetter pu) := z_PVof 18 (show (List.range 18).all (z_pck cX7_isLetter p_X7_isLetter) = true by decide +kernel) (fun k hk => by show p_X7_isLetter k = none; unfold p_X7_isLetter; rw [z_bltF hk]; rfl)
set_option maxRecDepth 100000 in
theorem vP_X7_isDigit (pu : Nat → Option ((List Value → z_H → Prop) × (List Value → z_H → Int32))) : z_PV (m_X7_isDigit pu) := z_PVof 18 (show (List.range 18).all (z_pck cX7_isDigit p_X7_isDigit) = true by decide +kernel) (fun k hk => by show p_X7_isDigit k = none; unfold p_X7_isDigit; rw [z_bltF hk]; rfl)
set_option maxRecDepth 100000 in
theorem vP_X7_isWord (pu : Nat → Option ((List Value → z_H → Prop) × (List Value → z_H → Int32))) : z_PV (m_X7_isWord pu) := z_PVof 57 (show (List.range 57).all (z_pck cX7_isWord p_X7_isWord) = true by decide +kernel) (fun k hk => by show p_X7_isWord k = none; unfold p_X7_isWord; rw [z_bltF hk]; rfl)
set_option maxRecDepth 100000 in
theorem vP_X8_init (pu : Nat → Option ((List Value → z_H → Prop) × (List Value → z_H → Int32))) : z_PV (m_X8_init pu) := z_PVof 164 (show (List.range 164).all (z_pck cX8_init p_X8_init) = true by decide +kernel) (fun k hk => by show p_X8_init k = none; unfold p_X8_init; rw [z_bltF hk]; rfl)
set_option maxRecDepth 100000 in
theorem vP_X8_addFlag (pu : Nat → Option ((List Value → z_H → Prop) × (List Value → z_H → Int32))) : z_PV (m_X8_addFlag pu) := z_PVof 99 (show (List.range 99).all (z_pck cX8_addFlag p_X8_addFlag) = true by decide +kernel) (fun k hk => by show p_X8_addFlag k = none; unfold p_X8_addFlag; rw [z_bltF hk]; rfl)
set_option maxRecDepth 100000 in
theorem vP_X8_withPoints (pu : Nat → Option ((List Value → z_H → Prop) × (List Value → z_H → Int32))) : z_PV (m_X8_withPoints pu) := z_PVof 17 (show (List.range 17).all (z_pck cX8_withPoints p_X8_withPoints) = true by decide +kernel) (fun k hk => by show p_X8_withPoints k = none; unfold p_X8_withPoints; rw [z_bltF hk]; rfl)
set_option maxRecDepth 100000 in
theorem vP_X8_canTake (pu : Nat → Option ((List Value → z_H → Prop) × (List Value → z_H → Int32))) : z_PV (m_X8_canTake pu) := z_PVof 60 (show (List.range 60).all (z_pck cX8_canTake p_X8_canTake) = true by decide +kernel) (fun k hk => by show p_X8_canTake k = none; unfold p_X8_canTake; rw [z_bltF hk]; rfl)
set_option maxRecDepth 100000 in
theorem vP_X8_keepsApart (pu : Nat → Option ((List Value → z_H → Prop) × (List Value → z_H → Int32))) : z_PV (m_X8_keepsApart pu) := z_PVof 29 (show (List.range 29).all (z_pck cX8_keepsApart p_X8_keepsApart) = true by decide +kernel) (fun k hk => by show p_X8_keepsApart k = none; unfold p_X8_keepsApart; rw [z_bltF hk]; rfl)
set_option maxRecDepth 100000 in
theorem vP_X8_firstSize (pu : Nat → Option ((List Value → z_H → Prop) × (List Value → z_H → Int32))) : z_PV (m_X8_firstSize pu) := z_PVof 18 (show (List.range 18).all (z_pck cX8_firstSize p_X8_firstSize) = true by decide +kernel) (fun k hk => by show p_X8_firstSize k = none; unfold p_X8_firstSize; rw [z_bltF hk]; rfl)
set_option maxRecDepth 100000 in
theorem vP_X8_flags (pu : Nat → Option ((List Value → z_H → Prop) × (List Value → z_H → Int32))) : z_PV (m_X8_flags pu) := z_PVof 29 (show (List.range 29).all (z_pck cX8_flags p_X8_flags) = true by decide +kernel) (fun k hk => by show p_X8_flags k = none; unfold p_X8_flags; rw [z_bltF hk]; rfl)
set_option maxRecDepth 100000 in
theorem vP_X8_isRegular (pu : Nat → Option ((List Value → z_H → Prop) × (List Value → z_H → Int32))) : z_PV (m_X8_isRegular pu) := z_PVof 68 (show (List.range 68).all (z_pck cX8_isRegular p_X8_isRegular) = true by decide +kernel) (fun k hk => by show p_X8_isRegular k = none; unfold p_X8_isRegular; rw [z_bltF hk]; rfl)
set_option maxRecDepth 100000 in
theorem vP_X8_joinedPairs (pu : Nat → Option ((List Value → z_H → Prop) × (List Value → z_H → Int32))) : z_PV (m_X8_joinedPairs pu) := z_PVof 40 (show (List.range 40).all (z_pck cX8_joinedPairs p_X8_joinedPairs) = true by decide +kernel) (fun k hk => by show p_X8_joinedPairs k = none; unfold p_X8_joinedPairs; rw [z_bltF hk]; rfl)
set_option maxRecDepth 100000 in
theorem vP_X8_triangles (pu : Nat → Option ((List Value → z_H → Prop) × (List Value → z_H → Int32))) : z_PV (m_X8_triangles pu) := z_PVof 12 (show (List.range 12).all (z_pck cX8_triangles p_X8_triangles) = true by decide +kernel) (fun k hk => by show p_X8_triangles k = none; unfold p_X8_triangles; rw [z_bltF hk]; rfl)
set_option maxRecDepth 100000 in
theorem vP_X8_trianglesOf (pu : Nat → Option ((List Value → z_H → Prop) × (List Value → z_H → Int32))) : z_PV (m_X8_trianglesOf pu) := z_PVof 72 (show (List.range 72).all (z_pck cX8_trianglesOf p_X8_trianglesOf) = true by decide +kernel) (fun k hk => by show p_X8_trianglesOf k = none; unfold p_X8_trianglesOf; rw [z_bltF hk]; rfl)
set_option maxRecDepth 100000 in
theorem vP_X8_isTriangle (pu : Nat → Option ((List Value → z_H → Prop) × (List Value → z_H → Int32))) : z_PV (m_X8_isTriangle pu) := z_PVof 32 (show (List.range 32).all (z_pck cX8_isTriangle p_X8_isTriangle) = true by decide +kernel) (fun k hk => by show p_X8_isTriangle k = none; unfold p_X8_isTriangle; rw [z_bltF hk]; rfl)
set_option maxRecDepth 100000 in
theorem vP_X8_fours (pu : Nat → Option ((List Value → z_H → Prop) × (List Value → z_H → Int32))) : z_PV (m_X8_fours pu) := z_PVof 94 (show (List.range 94).all (z_pck cX8_fours p_X8_fours) = true by decide +kernel) (fun k hk => by show p_X8_fours k = none; unfold p_X8_fours; rw [z_bltF hk]; rfl)
set_option maxRecDepth 100000 in
theorem vP_X8_foursOf (pu : Nat → Option ((List Value → z_H → Prop) × (List Value → z_H → Int32))) : z_PV (m_X8_foursOf pu) := z_PVof 104 (show (List.range 104).all (z_pck cX8_foursOf p_X8_foursOf) = true by decide +kernel) (fun k hk => by show p_X8_foursOf k = none; unfold p_X8_foursOf; rw [z_bltF hk]; rfl)
set_option maxRecDepth 100000 in
theorem vP_X8_apart (pu : Nat → Option ((List Value → z_H → Prop) × (List Value → z_H → Int32))) : z_PV (m_X8_apart pu) := z_PVof 57 (show (List.range 57).all (z_pck cX8_apart p_X8_apart) = true by decide +kernel) (fun k hk => by show p_X8_apart k = none; unfold p_X8_apart; rw [z_bltF hk]; rfl)
set_option maxRecDepth 100000 in
theorem vP_X8_steps (pu : Nat → Option ((List Value → z_H → Prop) × (List Value → z_H → Int32))) : z_PV (m_X8_steps pu) := z_PVof 40 (show (List.range 40).all (z_pck cX8_steps p_X8_steps) = true by decide +kernel) (fun k hk => by show p_X8_steps k = none; unfold p_X8_steps; rw [z_bltF hk]; rfl)
set_option maxRecDepth 100000 in
theorem vP_X8_spreadOut (pu : Nat → Option ((List Value → z_H → Prop) × (List Value → z_H → Int32))) : z_PV (m_X8_spreadOut pu) := z_PVof 50 (show (List.range 50).all (z_pck cX8_spreadOut p_X8_spreadOut) = true by decide +kernel) (fun k hk => by show p_X8_spreadOut k = none; unfold p_X8_spreadOut; rw [z_bltF hk]; rfl)
set_option maxRecDepth 100000 in
theorem vP_X8_piece (pu : Nat → Option ((List Value → z_H → Prop) × (List Value → z_H → Int32))) : z_PV (m_X8_piece pu) := z_PVof 27 (show (List.range 27).all (z_pck cX8_piece p_X8_piece) = true by decide +kernel) (fun k hk => by show p_X8_piece k = none; unfold p_X8_piece; rw [z_bltF hk]; rfl)
set_option maxRecDepth 100000 in
theorem vP_X8_pieces (pu : Nat → Option ((List Value → z_H → Prop) × (List Value → z_H → Int32))) : z_PV (m_X8_pieces pu) := z_PVof 41 (show (List.range 41).all (z_pck cX8_pieces p_X8_pieces) = true by decide +kernel) (fun k hk => by show p_X8_pieces k = none; unfold p_X8_pieces; rw [z_bltF hk]; rfl)
set_option maxRecDepth 100000 in
theorem vP_X8_girth (pu : Nat → Option ((List Value → z_H → Prop) × (List Value → z_H → Int32))) : z_PV (m_X8_girth pu) := z_PVof 95 (show (List.range 95).all (z_pck cX8_girth p_X8_girth) = true by decide +kernel) (fun k hk => by show p_X8_girth k = none; unfold p_X8_girth; rw [z_bltF hk]; rfl)
set_option maxRecDepth 100000 in
theorem vP_X8_turned (pu : Nat → Option ((List Value → z_H → Prop) × (List Value → z_H → Int32))) : z_PV (m_X8_turned pu) := z_PVof 37 (show (List.range 37).all (z_pck cX8_turned p_X8_turned) = true by decide +kernel) (fun k hk => by show p_X8_turned k = none; unfold p_X8_turned; rw [z_bltF hk]; rfl)
set_option maxRecDepth 100000 in
theorem vP_X8_makeTurned (pu : Nat → Option ((List Value → z_H → Prop) × (List Value → z_H → Int32))) : z_PV (m_X8_makeTurned pu) := z_PVof 71 (show (List.range 71).all (z_pck cX8_makeTurned p_X8_makeTurned) = true by decide +kernel) (fun k hk => by show p_X8_makeTurned k = none; unfold p_X8_makeTurned; rw [z_bltF hk]; rfl)
set_option maxRecDepth 100000 in
theorem vP_X8_twins (pu : Nat → Option ((List Value → z_H → Prop) × (List Value → z_H → Int32))) : z_PV (m_X8_twins pu) := z_PVof 78 (show (List.range 78).all (z_pck cX8_twins p_X8_twins) = true by decide +kernel) (fun k hk => by show p_X8_twins k = none; unfold p_X8_twins; rw [z_bltF hk]; rfl)
set_option maxRecDepth 100000 in
theorem vP_X8_areTwins (pu : Nat → Option ((List Value → z_H → Prop) × (List Value → z_H → Int32))) : z_PV (m_X8_areTwins pu) := z_PVof 78 (show (List.range 78).all (z_pck cX8_areTwins p_X8_areTwins) = true by decide +kernel) (fun k hk => by show p_X8_areTwins k = none; unfold p_X8_areTwins; rw [z_bltF hk]; rfl)
set_option maxRecDepth 100000 in
theorem vP_X8_isLine (pu : Nat → Option ((List Value → z_H → Prop) × (List Value → z_H → Int32))) : z_PV (m_X8_isLine pu) := z_PVof 30 (show (List.range 30).all (z_pck cX8_isLine p_X8_isLine) = true by decide +kernel) (fun k hk => by show p_X8_isLine k = none; unfold p_X8_isLine; rw [z_bltF hk]; rfl)
set_option maxRecDepth 100000 in
theorem vP_X9_init (pu : Nat → Option ((List Value → z_H → Prop) × (List Value → z_H → Int32))) : z_PV (m_X9_init pu) := z_PVof 15 (show (List.range 15).all (z_pck cX9_init p_X9_init) = true by decide +kernel) (fun k hk => by show p_X9_init k = none; unfold p_X9_init; rw [z_bltF hk]; rfl)
set_option maxRecDepth 100000 in
theorem vP_X9_holdsLine (pu : Nat → Option ((List Value → z_H → Prop) × (List Value → z_H → Int32))) : z_PV (m_X9_holdsLine pu) := z_PVof 33 (show (List.range 33).all (z_pck cX9_holdsLine p_X9_holdsLine) = true by decide +kernel) (fun k hk => by show p_X9_holdsLine k = none; unfold p_X9_holdsLine; rw [z_bltF hk]; rfl)
set_option maxRecDepth 100000 in
theorem vP_X9_cover (pu : Nat → Option ((List Value → z_H → Prop) × (List Value → z_H → Int32))) : z_PV (m_X9_cover pu) := z_PVof 56 (show (List.range 56).all (z_pck cX9_cover p_X9_cover) = true by decide +kernel) (fun k hk => by show p_X9_cover k = none; unfold p_X9_cover; rw [z_bltF hk]; rfl)
set_option maxRecDepth 100000 in
theorem vP_X9_cap (pu : Nat → Option ((List Value → z_H → Prop) × (List Value → z_H → Int32))) : z_PV (m_X9_cap pu) := z_PVof 43 (show (List.range 43).all (z_pck cX9_cap p_X9_cap) = true by decide +kernel) (fun k hk => by show p_X9_cap k = none; unfold p_X9_cap; rw [z_bltF hk]; rfl)
set_option maxRecDepth 100000 in
theorem vP_X9_halves (pu : Nat → Option ((List Value → z_H → Prop) × (List Value → z_H → Int32))) : z_PV (m_X9_halves pu) := z_PVof 33 (show (List.range 33).all (z_pck cX9_halves p_X9_halves) = true by decide +kernel) (fun k hk => by show p_X9_halves k = none; unfold p_X9_halves; rw [z_bltF hk]; rfl)
set_option maxRecDepth 100000 in
theorem vP_X9_firstHalf (pu : Nat → Option ((List Value → z_H → Prop) × (List Value → z_H → Int32))) : z_PV (m_X9_firstHalf pu) := z_PVof 30 (show (List.range 30).all (z_pck cX9_firstHalf p_X9_firstHalf) = true by decide +kernel) (fun k hk => by show p_X9_firstHalf k = none; unfold p_X9_firstHalf; rw [z_bltF hk]; rfl)
set_option maxRecDepth 100000 in
theorem vP_X9_isHalf (pu : Nat → Option ((List Value → z_H → Prop) × (List Value → z_H → Int32))) : z_PV (m_X9_isHalf pu) := z_PVof 33 (show (List.range 33).all (z_pck cX9_isHalf p_X9_isHalf) = true by decide +kernel) (fun k hk => by show p_X9_isHalf k = none; unfold p_X9_isHalf; rw [z_bltF hk]; rfl)
set_option maxRecDepth 100000 in
theorem vP_X9_spreads (pu : Nat → Option ((List Value → z_H → Prop) × (List Value → z_H → Int32))) : z_PV (m_X9_spreads pu) := z_PVof 10 (show (List.range 10).all (z_pck cX9_spreads p_X9_spreads) = true by decide +kernel) (fun k hk => by show p_X9_spreads k = none; unfold p_X9_spreads; rw [z_bltF hk]; rfl)
set_option maxRecDepth 100000 in
theorem vP_X9_leastSpread (pu : Nat → Option ((List Value → z_H → Prop) × (List Value → z_H → Int32))) : z_PV (m_X9_leastSpread pu) := z_PVof 10 (show (List.range 10).all (z_pck cX9_leastSpread p_X9_leastSpread) = true by decide +kernel) (fun k hk => by show p_X9_leastSpread k = none; unfold p_X9_leastSpread; rw [z_bltF hk]; rfl)
set_option maxRecDepth 100000 in
theorem vP_X9_findSpreads (pu : Nat → Option ((List Value → z_H → Prop) × (List Value → z_H → Int32))) : z_PV (m_X9_findSpreads pu) := z_PVof 19 (show (List.range 19).all (z_pck cX9_findSpreads p_X9_findSpreads) = true by decide +kernel) (fun k hk => by show p_X9_findSpreads k = none; unfold p_X9_findSpreads; rw [z_bltF hk]; rfl)
set_option maxRecDepth 100000 in
theorem vP_X9_coverFrom (pu : Nat → Option ((List Value → z_H → Prop) × (List Value → z_H → Int32))) : z_PV (m_X9_coverFrom pu) := z_PVof 144 (show (List.range 144).all (z_pck cX9_coverFrom p_X9_coverFrom) = true by decide +kernel) (fun k hk => by show p_X9_coverFrom k = none; unfold p_X9_coverFrom; rw [z_bltF hk]; rfl)
set_option maxRecDepth 100000 in
theorem vP_X10_init (pu : Nat → Option ((List Value → z_H → Prop) × (List Value → z_H → Int32))) : z_PV (m_X10_init pu) := z_PVof 28 (show (List.range 28).all (z_pck cX10_init p_X10_init) = true by decide +kernel) (fun k hk => by show p_X10_init k = none; unfold p_X10_init; rw [z_bltF hk]; rfl)
set_option maxRecDepth 100000 in
theorem vP_X10_run (pu : Nat → Option ((List Value → z_H → Prop) × (List Value → z_H → Int32))) : z_PV (m_X10_run pu) := z_PVof 90 (show (List.range 90).all (z_pck cX10_run p_X10_run) = true by decide +kernel) (fun k hk => by show p_X10_run k = none; unfold p_X10_run; rw [z_bltF hk]; rfl)
set_option maxRecDepth 100000 in
theorem vP_X10_draw (pu : Nat → Option ((List Value → z_H → Prop) × (List Value → z_H → Int32))) : z_PV (m_X10_draw pu) := z_PVof 38 (show (List.range 38).all (z_pck cX10_draw p_X10_draw) = true by decide +kernel) (fun k hk => by show p_X10_draw k = none; unfold p_X10_draw; rw [z_bltF hk]; rfl)
set_option maxRecDepth 100000 in
theorem vP_X10_tryLine (pu : Nat → Option ((List Value → z_H → Prop) × (List Value → z_H → Int32))) : z_PV (m_X10_tryLine pu) := z_PVof 91 (show (List.range 91).all (z_pck cX10_tryLine p_X10_tryLine) = true by decide +kernel) (fun k hk => by show p_X10_tryLine k = none; unfold p_X10_tryLine; rw [z_bltF hk]; rfl)
set_option maxRecDepth 100000 in
theorem vP_X10_leaveOut (pu : Nat → Option ((List Value → z_H → Prop) × (List Value → z_H → Int32))) : z_PV (m_X10_leaveOut pu) := z_PVof 43 (show (List.range 43).all (z_pck cX10_leaveOut p_X10_leaveOut) = true by decide +kernel) (fun k hk => by show p_X10_leaveOut k = none; unfold p_X10_leaveOut; rw [z_bltF hk]; rfl)
set_option maxRecDepth 100000 in
theorem vP_J6_numberOfTrailingZeros_0f7a4 (pu : Nat → Option ((List Value → z_H → Prop) × (List Value → z_H → Int32))) : z_PV (m_J6_numberOfTrailingZeros_0f7a4 pu) := z_PVof 80 (show (List.range 80).all (z_pck cJ6_numberOfTrailingZeros_0f7a4 p_J6_numberOfTrailingZeros_0f7a4) = true by decide +kernel) (fun k hk => by show p_J6_numberOfTrailingZeros_0f7a4 k = none; unfold p_J6_numberOfTrailingZeros_0f7a4; rw [z_bltF hk]; rfl)
set_option maxRecDepth 100000 in
theorem vP_J6_bitCount_0f7a4 (pu : Nat → Option ((List Value → z_H → Prop) × (List Value → z_H → Int32))) : z_PV (m_J6_bitCount_0f7a4 pu) := z_PVof 53 (show (List.range 53).all (z_pck cJ6_bitCount_0f7a4 p_J6_bitCount_0f7a4) = true by decide +kernel) (fun k hk => by show p_J6_bitCount_0f7a4 k = none; unfold p_J6_bitCount_0f7a4; rw [z_bltF hk]; rfl)
set_option maxRecDepth 100000 in
theorem vP_J9_max_7cf53 (pu : Nat → Option ((List Value → z_H → Prop) × (List Value → z_H → Int32))) : z_PV (m_J9_max_7cf53 pu) := z_PVof 11 (show (List.range 11).all (z_pck cJ9_max_7cf53 p_J9_max_7cf53) = true by decide +kernel) (fun k hk => by show p_J9_max_7cf53 k = none; unfold p_J9_max_7cf53; rw [z_bltF hk]; rfl)
set_option maxRecDepth 100000 in
theorem vP_J9_min_7cf53 (pu : Nat → Option ((List Value → z_H → Prop) × (List Value → z_H → Int32))) : z_PV (m_J9_min_7cf53 pu) := z_PVof 11 (show (List.range 11).all (z_pck cJ9_min_7cf53 p_J9_min_7cf53) = true by decide +kernel) (fun k hk => by show p_J9_min_7cf53 k = none; unfold p_J9_min_7cf53; rw [z_bltF hk]; rfl)
set_option maxRecDepth 100000 in
theorem vP_J7_fill_d0a16 (pu : Nat → Option ((List Value → z_H → Prop) × (List Value → z_H → Int32))) : z_PV (m_J7_fill_d0a16 pu) := z_PVof 23 (show (List.range 23).all (z_pck cJ7_fill_d0a16 p_J7_fill_d0a16) = true by decide +kernel) (fun k hk => by show p_J7_fill_d0a16 k = none; unfold p_J7_fill_d0a16; rw [z_bltF hk]; rfl)
set_option maxRecDepth 100000 in
theorem vP_J7_fill_53178 (pu : Nat → Option ((List Value → z_H → Prop) × (List Value → z_H → Int32))) : z_PV (m_J7_fill_53178 pu) := z_PVof 21 (show (List.range 21).all (z_pck cJ7_fill_53178 p_J7_fill_53178) = true by decide +kernel) (fun k hk => by show p_J7_fill_53178 k = none; unfold p_J7_fill_53178; rw [z_bltF hk]; rfl)
set_option maxRecDepth 100000 in
theorem vP_J7_fill_031fb (pu : Nat → Option ((List Value → z_H → Prop) × (List Value → z_H → Int32))) : z_PV (m_J7_fill_031fb pu) := z_PVof 21 (show (List.range 21).all (z_pck cJ7_fill_031fb p_J7_fill_031fb) = true by decide +kernel) (fun k hk => by show p_J7_fill_031fb k = none; unfold p_J7_fill_031fb; rw [z_bltF hk]; rfl)
set_option maxRecDepth 100000 in
theorem vP_J7_copyOf_59c91 (pu : Nat → Option ((List Value → z_H → Prop) × (List Value → z_H → Int32))) : z_PV (m_J7_copyOf_59c91 pu) := z_PVof 33 (show (List.range 33).all (z_pck cJ7_copyOf_59c91 p_J7_copyOf_59c91) = true by decide +kernel) (fun k hk => by show p_J7_copyOf_59c91 k = none; unfold p_J7_copyOf_59c91; rw [z_bltF hk]; rfl)
