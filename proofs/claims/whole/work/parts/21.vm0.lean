set_option maxRecDepth 100000 in
theorem vP_X0_init (pu : Nat → Option ((List Value → z_H → Prop) × (List Value → z_H → Int32))) : z_PV (m_X0_init pu) := z_PVof 20 (show (List.range 20).all (z_pck cX0_init p_X0_init) = true by decide +kernel) (fun k hk => by show p_X0_init k = none; unfold p_X0_init; rw [z_bltF hk]; rfl)
set_option maxRecDepth 100000 in
theorem vP_X1_init (pu : Nat → Option ((List Value → z_H → Prop) × (List Value → z_H → Int32))) : z_PV (m_X1_init pu) := z_PVof 20 (show (List.range 20).all (z_pck cX1_init p_X1_init) = true by decide +kernel) (fun k hk => by show p_X1_init k = none; unfold p_X1_init; rw [z_bltF hk]; rfl)
set_option maxRecDepth 100000 in
theorem vP_X1_with (pu : Nat → Option ((List Value → z_H → Prop) × (List Value → z_H → Int32))) : z_PV (m_X1_with pu) := z_PVof 17 (show (List.range 17).all (z_pck cX1_with p_X1_with) = true by decide +kernel) (fun k hk => by show p_X1_with k = none; unfold p_X1_with; rw [z_bltF hk]; rfl)
set_option maxRecDepth 100000 in
theorem vP_X1_placed (pu : Nat → Option ((List Value → z_H → Prop) × (List Value → z_H → Int32))) : z_PV (m_X1_placed pu) := z_PVof 50 (show (List.range 50).all (z_pck cX1_placed p_X1_placed) = true by decide +kernel) (fun k hk => by show p_X1_placed k = none; unfold p_X1_placed; rw [z_bltF hk]; rfl)
set_option maxRecDepth 100000 in
theorem vP_X1_swapped (pu : Nat → Option ((List Value → z_H → Prop) × (List Value → z_H → Int32))) : z_PV (m_X1_swapped pu) := z_PVof 137 (show (List.range 137).all (z_pck cX1_swapped p_X1_swapped) = true by decide +kernel) (fun k hk => by show p_X1_swapped k = none; unfold p_X1_swapped; rw [z_bltF hk]; rfl)
set_option maxRecDepth 100000 in
theorem vP_X1_shrunk (pu : Nat → Option ((List Value → z_H → Prop) × (List Value → z_H → Int32))) : z_PV (m_X1_shrunk pu) := z_PVof 92 (show (List.range 92).all (z_pck cX1_shrunk p_X1_shrunk) = true by decide +kernel) (fun k hk => by show p_X1_shrunk k = none; unfold p_X1_shrunk; rw [z_bltF hk]; rfl)
set_option maxRecDepth 100000 in
theorem vP_X1_slips (pu : Nat → Option ((List Value → z_H → Prop) × (List Value → z_H → Int32))) : z_PV (m_X1_slips pu) := z_PVof 42 (show (List.range 42).all (z_pck cX1_slips p_X1_slips) = true by decide +kernel) (fun k hk => by show p_X1_slips k = none; unfold p_X1_slips; rw [z_bltF hk]; rfl)
set_option maxRecDepth 100000 in
theorem vP_X1_isSlip (pu : Nat → Option ((List Value → z_H → Prop) × (List Value → z_H → Int32))) : z_PV (m_X1_isSlip pu) := z_PVof 67 (show (List.range 67).all (z_pck cX1_isSlip p_X1_isSlip) = true by decide +kernel) (fun k hk => by show p_X1_isSlip k = none; unfold p_X1_isSlip; rw [z_bltF hk]; rfl)
set_option maxRecDepth 100000 in
theorem vP_X1_sameAt (pu : Nat → Option ((List Value → z_H → Prop) × (List Value → z_H → Int32))) : z_PV (m_X1_sameAt pu) := z_PVof 36 (show (List.range 36).all (z_pck cX1_sameAt p_X1_sameAt) = true by decide +kernel) (fun k hk => by show p_X1_sameAt k = none; unfold p_X1_sameAt; rw [z_bltF hk]; rfl)
set_option maxRecDepth 100000 in
theorem vP_X1_leavesOut (pu : Nat → Option ((List Value → z_H → Prop) × (List Value → z_H → Int32))) : z_PV (m_X1_leavesOut pu) := z_PVof 39 (show (List.range 39).all (z_pck cX1_leavesOut p_X1_leavesOut) = true by decide +kernel) (fun k hk => by show p_X1_leavesOut k = none; unfold p_X1_leavesOut; rw [z_bltF hk]; rfl)
set_option maxRecDepth 100000 in
theorem vP_X1_inLine (pu : Nat → Option ((List Value → z_H → Prop) × (List Value → z_H → Int32))) : z_PV (m_X1_inLine pu) := z_PVof 63 (show (List.range 63).all (z_pck cX1_inLine p_X1_inLine) = true by decide +kernel) (fun k hk => by show p_X1_inLine k = none; unfold p_X1_inLine; rw [z_bltF hk]; rfl)
set_option maxRecDepth 100000 in
theorem vP_X1_strays (pu : Nat → Option ((List Value → z_H → Prop) × (List Value → z_H → Int32))) : z_PV (m_X1_strays pu) := z_PVof 113 (show (List.range 113).all (z_pck cX1_strays p_X1_strays) = true by decide +kernel) (fun k hk => by show p_X1_strays k = none; unfold p_X1_strays; rw [z_bltF hk]; rfl)
set_option maxRecDepth 100000 in
theorem vP_X2_init (pu : Nat → Option ((List Value → z_H → Prop) × (List Value → z_H → Int32))) : z_PV (m_X2_init pu) := z_PVof 96 (show (List.range 96).all (z_pck cX2_init p_X2_init) = true by decide +kernel) (fun k hk => by show p_X2_init k = none; unfold p_X2_init; rw [z_bltF hk]; rfl)
set_option maxRecDepth 100000 in
theorem vP_X2_onSquare (pu : Nat → Option ((List Value → z_H → Prop) × (List Value → z_H → Int32))) : z_PV (m_X2_onSquare pu) := z_PVof 109 (show (List.range 109).all (z_pck cX2_onSquare p_X2_onSquare) = true by decide +kernel) (fun k hk => by show p_X2_onSquare k = none; unfold p_X2_onSquare; rw [z_bltF hk]; rfl)
set_option maxRecDepth 100000 in
theorem vP_X2_cornerPart (pu : Nat → Option ((List Value → z_H → Prop) × (List Value → z_H → Int32))) : z_PV (m_X2_cornerPart pu) := z_PVof 42 (show (List.range 42).all (z_pck cX2_cornerPart p_X2_cornerPart) = true by decide +kernel) (fun k hk => by show p_X2_cornerPart k = none; unfold p_X2_cornerPart; rw [z_bltF hk]; rfl)
set_option maxRecDepth 100000 in
theorem vP_X2_inPlane (pu : Nat → Option ((List Value → z_H → Prop) × (List Value → z_H → Int32))) : z_PV (m_X2_inPlane pu) := z_PVof 121 (show (List.range 121).all (z_pck cX2_inPlane p_X2_inPlane) = true by decide +kernel) (fun k hk => by show p_X2_inPlane k = none; unfold p_X2_inPlane; rw [z_bltF hk]; rfl)
set_option maxRecDepth 100000 in
theorem vP_X2_sameWays (pu : Nat → Option ((List Value → z_H → Prop) × (List Value → z_H → Int32))) : z_PV (m_X2_sameWays pu) := z_PVof 73 (show (List.range 73).all (z_pck cX2_sameWays p_X2_sameWays) = true by decide +kernel) (fun k hk => by show p_X2_sameWays k = none; unfold p_X2_sameWays; rw [z_bltF hk]; rfl)
set_option maxRecDepth 100000 in
theorem vP_X2_prepare (pu : Nat → Option ((List Value → z_H → Prop) × (List Value → z_H → Int32))) : z_PV (m_X2_prepare pu) := z_PVof 124 (show (List.range 124).all (z_pck cX2_prepare p_X2_prepare) = true by decide +kernel) (fun k hk => by show p_X2_prepare k = none; unfold p_X2_prepare; rw [z_bltF hk]; rfl)
set_option maxRecDepth 100000 in
theorem vP_X2_withoutPairs (pu : Nat → Option ((List Value → z_H → Prop) × (List Value → z_H → Int32))) : z_PV (m_X2_withoutPairs pu) := z_PVof 71 (show (List.range 71).all (z_pck cX2_withoutPairs p_X2_withoutPairs) = true by decide +kernel) (fun k hk => by show p_X2_withoutPairs k = none; unfold p_X2_withoutPairs; rw [z_bltF hk]; rfl)
set_option maxRecDepth 100000 in
theorem vP_X2_seatFrom (pu : Nat → Option ((List Value → z_H → Prop) × (List Value → z_H → Int32))) : z_PV (m_X2_seatFrom pu) := z_PVof 119 (show (List.range 119).all (z_pck cX2_seatFrom p_X2_seatFrom) = true by decide +kernel) (fun k hk => by show p_X2_seatFrom k = none; unfold p_X2_seatFrom; rw [z_bltF hk]; rfl)
set_option maxRecDepth 100000 in
theorem vP_X2_leavesRoom (pu : Nat → Option ((List Value → z_H → Prop) × (List Value → z_H → Int32))) : z_PV (m_X2_leavesRoom pu) := z_PVof 170 (show (List.range 170).all (z_pck cX2_leavesRoom p_X2_leavesRoom) = true by decide +kernel) (fun k hk => by show p_X2_leavesRoom k = none; unfold p_X2_leavesRoom; rw [z_bltF hk]; rfl)
set_option maxRecDepth 100000 in
theorem vP_X2_markSquare (pu : Nat → Option ((List Value → z_H → Prop) × (List Value → z_H → Int32))) : z_PV (m_X2_markSquare pu) := z_PVof 39 (show (List.range 39).all (z_pck cX2_markSquare p_X2_markSquare) = true by decide +kernel) (fun k hk => by show p_X2_markSquare k = none; unfold p_X2_markSquare; rw [z_bltF hk]; rfl)
set_option maxRecDepth 100000 in
theorem vP_X2_markPlane (pu : Nat → Option ((List Value → z_H → Prop) × (List Value → z_H → Int32))) : z_PV (m_X2_markPlane pu) := z_PVof 79 (show (List.range 79).all (z_pck cX2_markPlane p_X2_markPlane) = true by decide +kernel) (fun k hk => by show p_X2_markPlane k = none; unfold p_X2_markPlane; rw [z_bltF hk]; rfl)
set_option maxRecDepth 100000 in
theorem vP_X2_mark (pu : Nat → Option ((List Value → z_H → Prop) × (List Value → z_H → Int32))) : z_PV (m_X2_mark pu) := z_PVof 29 (show (List.range 29).all (z_pck cX2_mark p_X2_mark) = true by decide +kernel) (fun k hk => by show p_X2_mark k = none; unfold p_X2_mark; rw [z_bltF hk]; rfl)
set_option maxRecDepth 100000 in
theorem vP_X2_linesOfPlaces (pu : Nat → Option ((List Value → z_H → Prop) × (List Value → z_H → Int32))) : z_PV (m_X2_linesOfPlaces pu) := z_PVof 125 (show (List.range 125).all (z_pck cX2_linesOfPlaces p_X2_linesOfPlaces) = true by decide +kernel) (fun k hk => by show p_X2_linesOfPlaces k = none; unfold p_X2_linesOfPlaces; rw [z_bltF hk]; rfl)
set_option maxRecDepth 100000 in
theorem vP_X2_span (pu : Nat → Option ((List Value → z_H → Prop) × (List Value → z_H → Int32))) : z_PV (m_X2_span pu) := z_PVof 105 (show (List.range 105).all (z_pck cX2_span p_X2_span) = true by decide +kernel) (fun k hk => by show p_X2_span k = none; unfold p_X2_span; rw [z_bltF hk]; rfl)
set_option maxRecDepth 100000 in
theorem vP_X3_init (pu : Nat → Option ((List Value → z_H → Prop) × (List Value → z_H → Int32))) : z_PV (m_X3_init pu) := z_PVof 67 (show (List.range 67).all (z_pck cX3_init p_X3_init) = true by decide +kernel) (fun k hk => by show p_X3_init k = none; unfold p_X3_init; rw [z_bltF hk]; rfl)
set_option maxRecDepth 100000 in
theorem vP_X4_init (pu : Nat → Option ((List Value → z_H → Prop) × (List Value → z_H → Int32))) : z_PV (m_X4_init pu) := z_PVof 87 (show (List.range 87).all (z_pck cX4_init p_X4_init) = true by decide +kernel) (fun k hk => by show p_X4_init k = none; unfold p_X4_init; rw [z_bltF hk]; rfl)
set_option maxRecDepth 100000 in
theorem vP_X4_leastRow (pu : Nat → Option ((List Value → z_H → Prop) × (List Value → z_H → Int32))) : z_PV (m_X4_leastRow pu) := z_PVof 60 (show (List.range 60).all (z_pck cX4_leastRow p_X4_leastRow) = true by decide +kernel) (fun k hk => by show p_X4_leastRow k = none; unfold p_X4_leastRow; rw [z_bltF hk]; rfl)
set_option maxRecDepth 100000 in
theorem vP_X4_begin (pu : Nat → Option ((List Value → z_H → Prop) × (List Value → z_H → Int32))) : z_PV (m_X4_begin pu) := z_PVof 24 (show (List.range 24).all (z_pck cX4_begin p_X4_begin) = true by decide +kernel) (fun k hk => by show p_X4_begin k = none; unfold p_X4_begin; rw [z_bltF hk]; rfl)
set_option maxRecDepth 100000 in
theorem vP_X4_sortUp (pu : Nat → Option ((List Value → z_H → Prop) × (List Value → z_H → Int32))) : z_PV (m_X4_sortUp pu) := z_PVof 57 (show (List.range 57).all (z_pck cX4_sortUp p_X4_sortUp) = true by decide +kernel) (fun k hk => by show p_X4_sortUp k = none; unfold p_X4_sortUp; rw [z_bltF hk]; rfl)
set_option maxRecDepth 100000 in
theorem vP_X4_isLeast (pu : Nat → Option ((List Value → z_H → Prop) × (List Value → z_H → Int32))) : z_PV (m_X4_isLeast pu) := z_PVof 65 (show (List.range 65).all (z_pck cX4_isLeast p_X4_isLeast) = true by decide +kernel) (fun k hk => by show p_X4_isLeast k = none; unfold p_X4_isLeast; rw [z_bltF hk]; rfl)
set_option maxRecDepth 100000 in
theorem vP_X4_descend (pu : Nat → Option ((List Value → z_H → Prop) × (List Value → z_H → Int32))) : z_PV (m_X4_descend pu) := z_PVof 150 (show (List.range 150).all (z_pck cX4_descend p_X4_descend) = true by decide +kernel) (fun k hk => by show p_X4_descend k = none; unfold p_X4_descend; rw [z_bltF hk]; rfl)
set_option maxRecDepth 100000 in
theorem vP_X4_follow (pu : Nat → Option ((List Value → z_H → Prop) × (List Value → z_H → Int32))) : z_PV (m_X4_follow pu) := z_PVof 100 (show (List.range 100).all (z_pck cX4_follow p_X4_follow) = true by decide +kernel) (fun k hk => by show p_X4_follow k = none; unfold p_X4_follow; rw [z_bltF hk]; rfl)
set_option maxRecDepth 100000 in
theorem vP_X4_isFirstTwin (pu : Nat → Option ((List Value → z_H → Prop) × (List Value → z_H → Int32))) : z_PV (m_X4_isFirstTwin pu) := z_PVof 33 (show (List.range 33).all (z_pck cX4_isFirstTwin p_X4_isFirstTwin) = true by decide +kernel) (fun k hk => by show p_X4_isFirstTwin k = none; unfold p_X4_isFirstTwin; rw [z_bltF hk]; rfl)
set_option maxRecDepth 100000 in
theorem vP_X4_rename (pu : Nat → Option ((List Value → z_H → Prop) × (List Value → z_H → Int32))) : z_PV (m_X4_rename pu) := z_PVof 78 (show (List.range 78).all (z_pck cX4_rename p_X4_rename) = true by decide +kernel) (fun k hk => by show p_X4_rename k = none; unfold p_X4_rename; rw [z_bltF hk]; rfl)
set_option maxRecDepth 100000 in
theorem vP_X4_keepBest (pu : Nat → Option ((List Value → z_H → Prop) × (List Value → z_H → Int32))) : z_PV (m_X4_keepBest pu) := z_PVof 40 (show (List.range 40).all (z_pck cX4_keepBest p_X4_keepBest) = true by decide +kernel) (fun k hk => by show p_X4_keepBest k = none; unfold p_X4_keepBest; rw [z_bltF hk]; rfl)
set_option maxRecDepth 100000 in
theorem vP_X4_keyOf (pu : Nat → Option ((List Value → z_H → Prop) × (List Value → z_H → Int32))) : z_PV (m_X4_keyOf pu) := z_PVof 135 (show (List.range 135).all (z_pck cX4_keyOf p_X4_keyOf) = true by decide +kernel) (fun k hk => by show p_X4_keyOf k = none; unfold p_X4_keyOf; rw [z_bltF hk]; rfl)
set_option maxRecDepth 100000 in
theorem vP_X4_listed (pu : Nat → Option ((List Value → z_H → Prop) × (List Value → z_H → Int32))) : z_PV (m_X4_listed pu) := z_PVof 38 (show (List.range 38).all (z_pck cX4_listed p_X4_listed) = true by decide +kernel) (fun k hk => by show p_X4_listed k = none; unfold p_X4_listed; rw [z_bltF hk]; rfl)
set_option maxRecDepth 100000 in
theorem vP_X4_startOf (pu : Nat → Option ((List Value → z_H → Prop) × (List Value → z_H → Int32))) : z_PV (m_X4_startOf pu) := z_PVof 50 (show (List.range 50).all (z_pck cX4_startOf p_X4_startOf) = true by decide +kernel) (fun k hk => by show p_X4_startOf k = none; unfold p_X4_startOf; rw [z_bltF hk]; rfl)
set_option maxRecDepth 100000 in
theorem vP_X4_listedNumber (pu : Nat → Option ((List Value → z_H → Prop) × (List Value → z_H → Int32))) : z_PV (m_X4_listedNumber pu) := z_PVof 29 (show (List.range 29).all (z_pck cX4_listedNumber p_X4_listedNumber) = true by decide +kernel) (fun k hk => by show p_X4_listedNumber k = none; unfold p_X4_listedNumber; rw [z_bltF hk]; rfl)
set_option maxRecDepth 100000 in
theorem vP_X4_isWithin (pu : Nat → Option ((List Value → z_H → Prop) × (List Value → z_H → Int32))) : z_PV (m_X4_isWithin pu) := z_PVof 35 (show (List.range 35).all (z_pck cX4_isWithin p_X4_isWithin) = true by decide +kernel) (fun k hk => by show p_X4_isWithin k = none; unfold p_X4_isWithin; rw [z_bltF hk]; rfl)
set_option maxRecDepth 100000 in
theorem vP_X4_prepare (pu : Nat → Option ((List Value → z_H → Prop) × (List Value → z_H → Int32))) : z_PV (m_X4_prepare pu) := z_PVof 52 (show (List.range 52).all (z_pck cX4_prepare p_X4_prepare) = true by decide +kernel) (fun k hk => by show p_X4_prepare k = none; unfold p_X4_prepare; rw [z_bltF hk]; rfl)
set_option maxRecDepth 100000 in
theorem vP_X4_lengthen (pu : Nat → Option ((List Value → z_H → Prop) × (List Value → z_H → Int32))) : z_PV (m_X4_lengthen pu) := z_PVof 202 (show (List.range 202).all (z_pck cX4_lengthen p_X4_lengthen) = true by decide +kernel) (fun k hk => by show p_X4_lengthen k = none; unfold p_X4_lengthen; rw [z_bltF hk]; rfl)
set_option maxRecDepth 100000 in
theorem vP_X5_init (pu : Nat → Option ((List Value → z_H → Prop) × (List Value → z_H → Int32))) : z_PV (m_X5_init pu) := z_PVof 79 (show (List.range 79).all (z_pck cX5_init p_X5_init) = true by decide +kernel) (fun k hk => by show p_X5_init k = none; unfold p_X5_init; rw [z_bltF hk]; rfl)
set_option maxRecDepth 100000 in
theorem vP_X5_begin (pu : Nat → Option ((List Value → z_H → Prop) × (List Value → z_H → Int32))) : z_PV (m_X5_begin pu) := z_PVof 32 (show (List.range 32).all (z_pck cX5_begin p_X5_begin) = true by decide +kernel) (fun k hk => by show p_X5_begin k = none; unfold p_X5_begin; rw [z_bltF hk]; rfl)
set_option maxRecDepth 100000 in
theorem vP_X5_measured (pu : Nat → Option ((List Value → z_H → Prop) × (List Value → z_H → Int32))) : z_PV (m_X5_measured pu) := z_PVof 90 (show (List.range 90).all (z_pck cX5_measured p_X5_measured) = true by decide +kernel) (fun k hk => by show p_X5_measured k = none; unfold p_X5_measured; rw [z_bltF hk]; rfl)
set_option maxRecDepth 100000 in
theorem vP_X5_orbitsOf (pu : Nat → Option ((List Value → z_H → Prop) × (List Value → z_H → Int32))) : z_PV (m_X5_orbitsOf pu) := z_PVof 11 (show (List.range 11).all (z_pck cX5_orbitsOf p_X5_orbitsOf) = true by decide +kernel) (fun k hk => by show p_X5_orbitsOf k = none; unfold p_X5_orbitsOf; rw [z_bltF hk]; rfl)
set_option maxRecDepth 100000 in
theorem vP_X5_orbits (pu : Nat → Option ((List Value → z_H → Prop) × (List Value → z_H → Int32))) : z_PV (m_X5_orbits pu) := z_PVof 40 (show (List.range 40).all (z_pck cX5_orbits p_X5_orbits) = true by decide +kernel) (fun k hk => by show p_X5_orbits k = none; unfold p_X5_orbits; rw [z_bltF hk]; rfl)
set_option maxRecDepth 100000 in
theorem vP_X5_moves (pu : Nat → Option ((List Value → z_H → Prop) × (List Value → z_H → Int32))) : z_PV (m_X5_moves pu) := z_PVof 131 (show (List.range 131).all (z_pck cX5_moves p_X5_moves) = true by decide +kernel) (fun k hk => by show p_X5_moves k = none; unfold p_X5_moves; rw [z_bltF hk]; rfl)
set_option maxRecDepth 100000 in
theorem vP_X5_uniteNamed (pu : Nat → Option ((List Value → z_H → Prop) × (List Value → z_H → Int32))) : z_PV (m_X5_uniteNamed pu) := z_PVof 31 (show (List.range 31).all (z_pck cX5_uniteNamed p_X5_uniteNamed) = true by decide +kernel) (fun k hk => by show p_X5_uniteNamed k = none; unfold p_X5_uniteNamed; rw [z_bltF hk]; rfl)
set_option maxRecDepth 100000 in
theorem vP_X5_unite (pu : Nat → Option ((List Value → z_H → Prop) × (List Value → z_H → Int32))) : z_PV (m_X5_unite pu) := z_PVof 52 (show (List.range 52).all (z_pck cX5_unite p_X5_unite) = true by decide +kernel) (fun k hk => by show p_X5_unite k = none; unfold p_X5_unite; rw [z_bltF hk]; rfl)
set_option maxRecDepth 100000 in
theorem vP_X5_symmetric (pu : Nat → Option ((List Value → z_H → Prop) × (List Value → z_H → Int32))) : z_PV (m_X5_symmetric pu) := z_PVof 44 (show (List.range 44).all (z_pck cX5_symmetric p_X5_symmetric) = true by decide +kernel) (fun k hk => by show p_X5_symmetric k = none; unfold p_X5_symmetric; rw [z_bltF hk]; rfl)
set_option maxRecDepth 100000 in
theorem vP_X5_findSymmetric (pu : Nat → Option ((List Value → z_H → Prop) × (List Value → z_H → Int32))) : z_PV (m_X5_findSymmetric pu) := z_PVof 99 (show (List.range 99).all (z_pck cX5_findSymmetric p_X5_findSymmetric) = true by decide +kernel) (fun k hk => by show p_X5_findSymmetric k = none; unfold p_X5_findSymmetric; rw [z_bltF hk]; rfl)
set_option maxRecDepth 100000 in
theorem vP_X5_nameAfter (pu : Nat → Option ((List Value → z_H → Prop) × (List Value → z_H → Int32))) : z_PV (m_X5_nameAfter pu) := z_PVof 84 (show (List.range 84).all (z_pck cX5_nameAfter p_X5_nameAfter) = true by decide +kernel) (fun k hk => by show p_X5_nameAfter k = none; unfold p_X5_nameAfter; rw [z_bltF hk]; rfl)
set_option maxRecDepth 100000 in
theorem vP_X5_likeWays (pu : Nat → Option ((List Value → z_H → Prop) × (List Value → z_H → Int32))) : z_PV (m_X5_likeWays pu) := z_PVof 53 (show (List.range 53).all (z_pck cX5_likeWays p_X5_likeWays) = true by decide +kernel) (fun k hk => by show p_X5_likeWays k = none; unfold p_X5_likeWays; rw [z_bltF hk]; rfl)
set_option maxRecDepth 100000 in
theorem vP_X5_dualities (pu : Nat → Option ((List Value → z_H → Prop) × (List Value → z_H → Int32))) : z_PV (m_X5_dualities pu) := z_PVof 31 (show (List.range 31).all (z_pck cX5_dualities p_X5_dualities) = true by decide +kernel) (fun k hk => by show p_X5_dualities k = none; unfold p_X5_dualities; rw [z_bltF hk]; rfl)
set_option maxRecDepth 100000 in
theorem vP_X5_polarities (pu : Nat → Option ((List Value → z_H → Prop) × (List Value → z_H → Int32))) : z_PV (m_X5_polarities pu) := z_PVof 47 (show (List.range 47).all (z_pck cX5_polarities p_X5_polarities) = true by decide +kernel) (fun k hk => by show p_X5_polarities k = none; unfold p_X5_polarities; rw [z_bltF hk]; rfl)
set_option maxRecDepth 100000 in
theorem vP_X5_polaritiesFrom (pu : Nat → Option ((List Value → z_H → Prop) × (List Value → z_H → Int32))) : z_PV (m_X5_polaritiesFrom pu) := z_PVof 93 (show (List.range 93).all (z_pck cX5_polaritiesFrom p_X5_polaritiesFrom) = true by decide +kernel) (fun k hk => by show p_X5_polaritiesFrom k = none; unfold p_X5_polaritiesFrom; rw [z_bltF hk]; rfl)
set_option maxRecDepth 100000 in
theorem vP_X5_isMutual (pu : Nat → Option ((List Value → z_H → Prop) × (List Value → z_H → Int32))) : z_PV (m_X5_isMutual pu) := z_PVof 51 (show (List.range 51).all (z_pck cX5_isMutual p_X5_isMutual) = true by decide +kernel) (fun k hk => by show p_X5_isMutual k = none; unfold p_X5_isMutual; rw [z_bltF hk]; rfl)
set_option maxRecDepth 100000 in
theorem vP_X5_withinWays (pu : Nat → Option ((List Value → z_H → Prop) × (List Value → z_H → Int32))) : z_PV (m_X5_withinWays pu) := z_PVof 112 (show (List.range 112).all (z_pck cX5_withinWays p_X5_withinWays) = true by decide +kernel) (fun k hk => by show p_X5_withinWays k = none; unfold p_X5_withinWays; rw [z_bltF hk]; rfl)
set_option maxRecDepth 100000 in
theorem vP_X5_firstWithin (pu : Nat → Option ((List Value → z_H → Prop) × (List Value → z_H → Int32))) : z_PV (m_X5_firstWithin pu) := z_PVof 20 (show (List.range 20).all (z_pck cX5_firstWithin p_X5_firstWithin) = true by decide +kernel) (fun k hk => by show p_X5_firstWithin k = none; unfold p_X5_firstWithin; rw [z_bltF hk]; rfl)
set_option maxRecDepth 100000 in
theorem vP_X5_twinOrders (pu : Nat → Option ((List Value → z_H → Prop) × (List Value → z_H → Int32))) : z_PV (m_X5_twinOrders pu) := z_PVof 43 (show (List.range 43).all (z_pck cX5_twinOrders p_X5_twinOrders) = true by decide +kernel) (fun k hk => by show p_X5_twinOrders k = none; unfold p_X5_twinOrders; rw [z_bltF hk]; rfl)
set_option maxRecDepth 100000 in
theorem vP_X5_tally (pu : Nat → Option ((List Value → z_H → Prop) × (List Value → z_H → Int32))) : z_PV (m_X5_tally pu) := z_PVof 97 (show (List.range 97).all (z_pck cX5_tally p_X5_tally) = true by decide +kernel) (fun k hk => by show p_X5_tally k = none; unfold p_X5_tally; rw [z_bltF hk]; rfl)
set_option maxRecDepth 100000 in
theorem vP_X5_leastName (pu : Nat → Option ((List Value → z_H → Prop) × (List Value → z_H → Int32))) : z_PV (m_X5_leastName pu) := z_PVof 38 (show (List.range 38).all (z_pck cX5_leastName p_X5_leastName) = true by decide +kernel) (fun k hk => by show p_X5_leastName k = none; unfold p_X5_leastName; rw [z_bltF hk]; rfl)
set_option maxRecDepth 100000 in
theorem vP_X5_finish (pu : Nat → Option ((List Value → z_H → Prop) × (List Value → z_H → Int32))) : z_PV (m_X5_finish pu) := z_PVof 114 (show (List.range 114).all (z_pck cX5_finish p_X5_finish) = true by decide +kernel) (fun k hk => by show p_X5_finish k = none; unfold p_X5_finish; rw [z_bltF hk]; rfl)
set_option maxRecDepth 100000 in
theorem vP_X5_fit (pu : Nat → Option ((List Value → z_H → Prop) × (List Value → z_H → Int32))) : z_PV (m_X5_fit pu) := z_PVof 226 (show (List.range 226).all (z_pck cX5_fit p_X5_fit) = true by decide +kernel) (fun k hk => by show p_X5_fit k = none; unfold p_X5_fit; rw [z_bltF hk]; rfl)
set_option maxRecDepth 100000 in
theorem vP_X5_holds (pu : Nat → Option ((List Value → z_H → Prop) × (List Value → z_H → Int32))) : z_PV (m_X5_holds pu) := z_PVof 63 (show (List.range 63).all (z_pck cX5_holds p_X5_holds) = true by decide +kernel) (fun k hk => by show p_X5_holds k = none; unfold p_X5_holds; rw [z_bltF hk]; rfl)
