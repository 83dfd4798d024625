set_option maxRecDepth 100000 in
theorem vP_X12_init (pu : Nat → Option ((List Value → z_H → Prop) × (List Value → z_H → Int32))) : z_PV (m_X12_init pu) := z_PVof 229 (show (List.range 229).all (z_pck cX12_init p_X12_init) = true by decide +kernel) (fun k hk => by show p_X12_init k = none; unfold p_X12_init; rw [z_bltF hk]; rfl)
set_option maxRecDepth 100000 in
theorem vP_X12_thrown (pu : Nat → Option ((List Value → z_H → Prop) × (List Value → z_H → Int32))) : z_PV (m_X12_thrown pu) := z_PVof 5 (show (List.range 5).all (z_pck cX12_thrown p_X12_thrown) = true by decide +kernel) (fun k hk => by show p_X12_thrown k = none; unfold p_X12_thrown; rw [z_bltF hk]; rfl)
set_option maxRecDepth 100000 in
theorem vP_X12_fail (pu : Nat → Option ((List Value → z_H → Prop) × (List Value → z_H → Int32))) : z_PV (m_X12_fail pu) := z_PVof 7 (show (List.range 7).all (z_pck cX12_fail p_X12_fail) = true by decide +kernel) (fun k hk => by show p_X12_fail k = none; unfold p_X12_fail; rw [z_bltF hk]; rfl)
set_option maxRecDepth 100000 in
theorem vP_X12_isIn (pu : Nat → Option ((List Value → z_H → Prop) × (List Value → z_H → Int32))) : z_PV (m_X12_isIn pu) := z_PVof 16 (show (List.range 16).all (z_pck cX12_isIn p_X12_isIn) = true by decide +kernel) (fun k hk => by show p_X12_isIn k = none; unfold p_X12_isIn; rw [z_bltF hk]; rfl)
set_option maxRecDepth 100000 in
theorem vP_X12_feed (pu : Nat → Option ((List Value → z_H → Prop) × (List Value → z_H → Int32))) : z_PV (m_X12_feed pu) := z_PVof 125 (show (List.range 125).all (z_pck cX12_feed p_X12_feed) = true by decide +kernel) (fun k hk => by show p_X12_feed k = none; unfold p_X12_feed; rw [z_bltF hk]; rfl)
set_option maxRecDepth 100000 in
theorem vP_X12_byteAt (pu : Nat → Option ((List Value → z_H → Prop) × (List Value → z_H → Int32))) : z_PV (m_X12_byteAt pu) := z_PVof 19 (show (List.range 19).all (z_pck cX12_byteAt p_X12_byteAt) = true by decide +kernel) (fun k hk => by show p_X12_byteAt k = none; unfold p_X12_byteAt; rw [z_bltF hk]; rfl)
set_option maxRecDepth 100000 in
theorem vP_X12_isLetter (pu : Nat → Option ((List Value → z_H → Prop) × (List Value → z_H → Int32))) : z_PV (m_X12_isLetter pu) := z_PVof 18 (show (List.range 18).all (z_pck cX12_isLetter p_X12_isLetter) = true by decide +kernel) (fun k hk => by show p_X12_isLetter k = none; unfold p_X12_isLetter; rw [z_bltF hk]; rfl)
set_option maxRecDepth 100000 in
theorem vP_X12_isDigit (pu : Nat → Option ((List Value → z_H → Prop) × (List Value → z_H → Int32))) : z_PV (m_X12_isDigit pu) := z_PVof 18 (show (List.range 18).all (z_pck cX12_isDigit p_X12_isDigit) = true by decide +kernel) (fun k hk => by show p_X12_isDigit k = none; unfold p_X12_isDigit; rw [z_bltF hk]; rfl)
set_option maxRecDepth 100000 in
theorem vP_X12_stepOn (pu : Nat → Option ((List Value → z_H → Prop) × (List Value → z_H → Int32))) : z_PV (m_X12_stepOn pu) := z_PVof 226 (show (List.range 226).all (z_pck cX12_stepOn p_X12_stepOn) = true by decide +kernel) (fun k hk => by show p_X12_stepOn k = none; unfold p_X12_stepOn; rw [z_bltF hk]; rfl)
set_option maxRecDepth 100000 in
theorem vP_X12_wrong (pu : Nat → Option ((List Value → z_H → Prop) × (List Value → z_H → Int32))) : z_PV (m_X12_wrong pu) := z_PVof 22 (show (List.range 22).all (z_pck cX12_wrong p_X12_wrong) = true by decide +kernel) (fun k hk => by show p_X12_wrong k = none; unfold p_X12_wrong; rw [z_bltF hk]; rfl)
set_option maxRecDepth 100000 in
theorem vP_X12_is (pu : Nat → Option ((List Value → z_H → Prop) × (List Value → z_H → Int32))) : z_PV (m_X12_is pu) := z_PVof 84 (show (List.range 84).all (z_pck cX12_is p_X12_is) = true by decide +kernel) (fun k hk => by show p_X12_is k = none; unfold p_X12_is; rw [z_bltF hk]; rfl)
set_option maxRecDepth 100000 in
theorem vP_X12_isMarked (pu : Nat → Option ((List Value → z_H → Prop) × (List Value → z_H → Int32))) : z_PV (m_X12_isMarked pu) := z_PVof 34 (show (List.range 34).all (z_pck cX12_isMarked p_X12_isMarked) = true by decide +kernel) (fun k hk => by show p_X12_isMarked k = none; unfold p_X12_isMarked; rw [z_bltF hk]; rfl)
set_option maxRecDepth 100000 in
theorem vP_X12_numberNow (pu : Nat → Option ((List Value → z_H → Prop) × (List Value → z_H → Int32))) : z_PV (m_X12_numberNow pu) := z_PVof 75 (show (List.range 75).all (z_pck cX12_numberNow p_X12_numberNow) = true by decide +kernel) (fun k hk => by show p_X12_numberNow k = none; unfold p_X12_numberNow; rw [z_bltF hk]; rfl)
set_option maxRecDepth 100000 in
theorem vP_X12_readNumber (pu : Nat → Option ((List Value → z_H → Prop) × (List Value → z_H → Int32))) : z_PV (m_X12_readNumber pu) := z_PVof 20 (show (List.range 20).all (z_pck cX12_readNumber p_X12_readNumber) = true by decide +kernel) (fun k hk => by show p_X12_readNumber k = none; unfold p_X12_readNumber; rw [z_bltF hk]; rfl)
set_option maxRecDepth 100000 in
theorem vP_X12_readSigned (pu : Nat → Option ((List Value → z_H → Prop) × (List Value → z_H → Int32))) : z_PV (m_X12_readSigned pu) := z_PVof 34 (show (List.range 34).all (z_pck cX12_readSigned p_X12_readSigned) = true by decide +kernel) (fun k hk => by show p_X12_readSigned k = none; unfold p_X12_readSigned; rw [z_bltF hk]; rfl)
set_option maxRecDepth 100000 in
theorem vP_X12_pointNow (pu : Nat → Option ((List Value → z_H → Prop) × (List Value → z_H → Int32))) : z_PV (m_X12_pointNow pu) := z_PVof 32 (show (List.range 32).all (z_pck cX12_pointNow p_X12_pointNow) = true by decide +kernel) (fun k hk => by show p_X12_pointNow k = none; unfold p_X12_pointNow; rw [z_bltF hk]; rfl)
set_option maxRecDepth 100000 in
theorem vP_X12_readLine (pu : Nat → Option ((List Value → z_H → Prop) × (List Value → z_H → Int32))) : z_PV (m_X12_readLine pu) := z_PVof 163 (show (List.range 163).all (z_pck cX12_readLine p_X12_readLine) = true by decide +kernel) (fun k hk => by show p_X12_readLine k = none; unfold p_X12_readLine; rw [z_bltF hk]; rfl)
set_option maxRecDepth 100000 in
theorem vP_X12_readClause (pu : Nat → Option ((List Value → z_H → Prop) × (List Value → z_H → Int32))) : z_PV (m_X12_readClause pu) := z_PVof 188 (show (List.range 188).all (z_pck cX12_readClause p_X12_readClause) = true by decide +kernel) (fun k hk => by show p_X12_readClause k = none; unfold p_X12_readClause; rw [z_bltF hk]; rfl)
set_option maxRecDepth 100000 in
theorem vP_X12_scheme (pu : Nat → Option ((List Value → z_H → Prop) × (List Value → z_H → Int32))) : z_PV (m_X12_scheme pu) := z_PVof 186 (show (List.range 186).all (z_pck cX12_scheme p_X12_scheme) = true by decide +kernel) (fun k hk => by show p_X12_scheme k = none; unfold p_X12_scheme; rw [z_bltF hk]; rfl)
set_option maxRecDepth 100000 in
theorem vP_X12_fault (pu : Nat → Option ((List Value → z_H → Prop) × (List Value → z_H → Int32))) : z_PV (m_X12_fault pu) := z_PVof 10 (show (List.range 10).all (z_pck cX12_fault p_X12_fault) = true by decide +kernel) (fun k hk => by show p_X12_fault k = none; unfold p_X12_fault; rw [z_bltF hk]; rfl)
set_option maxRecDepth 100000 in
theorem vP_X12_bits (pu : Nat → Option ((List Value → z_H → Prop) × (List Value → z_H → Int32))) : z_PV (m_X12_bits pu) := z_PVof 5 (show (List.range 5).all (z_pck cX12_bits p_X12_bits) = true by decide +kernel) (fun k hk => by show p_X12_bits k = none; unfold p_X12_bits; rw [z_bltF hk]; rfl)
set_option maxRecDepth 100000 in
theorem vP_X12_sharesTwo (pu : Nat → Option ((List Value → z_H → Prop) × (List Value → z_H → Int32))) : z_PV (m_X12_sharesTwo pu) := z_PVof 43 (show (List.range 43).all (z_pck cX12_sharesTwo p_X12_sharesTwo) = true by decide +kernel) (fun k hk => by show p_X12_sharesTwo k = none; unfold p_X12_sharesTwo; rw [z_bltF hk]; rfl)
set_option maxRecDepth 100000 in
theorem vP_X12_points (pu : Nat → Option ((List Value → z_H → Prop) × (List Value → z_H → Int32))) : z_PV (m_X12_points pu) := z_PVof 7 (show (List.range 7).all (z_pck cX12_points p_X12_points) = true by decide +kernel) (fun k hk => by show p_X12_points k = none; unfold p_X12_points; rw [z_bltF hk]; rfl)
set_option maxRecDepth 100000 in
theorem vP_X12_lines (pu : Nat → Option ((List Value → z_H → Prop) × (List Value → z_H → Int32))) : z_PV (m_X12_lines pu) := z_PVof 7 (show (List.range 7).all (z_pck cX12_lines p_X12_lines) = true by decide +kernel) (fun k hk => by show p_X12_lines k = none; unfold p_X12_lines; rw [z_bltF hk]; rfl)
set_option maxRecDepth 100000 in
theorem vP_X12_lineAt (pu : Nat → Option ((List Value → z_H → Prop) × (List Value → z_H → Int32))) : z_PV (m_X12_lineAt pu) := z_PVof 9 (show (List.range 9).all (z_pck cX12_lineAt p_X12_lineAt) = true by decide +kernel) (fun k hk => by show p_X12_lineAt k = none; unfold p_X12_lineAt; rw [z_bltF hk]; rfl)
set_option maxRecDepth 100000 in
theorem vP_X12_linesOn (pu : Nat → Option ((List Value → z_H → Prop) × (List Value → z_H → Int32))) : z_PV (m_X12_linesOn pu) := z_PVof 34 (show (List.range 34).all (z_pck cX12_linesOn p_X12_linesOn) = true by decide +kernel) (fun k hk => by show p_X12_linesOn k = none; unfold p_X12_linesOn; rw [z_bltF hk]; rfl)
set_option maxRecDepth 100000 in
theorem vP_X12_lineOf (pu : Nat → Option ((List Value → z_H → Prop) × (List Value → z_H → Int32))) : z_PV (m_X12_lineOf pu) := z_PVof 31 (show (List.range 31).all (z_pck cX12_lineOf p_X12_lineOf) = true by decide +kernel) (fun k hk => by show p_X12_lineOf k = none; unfold p_X12_lineOf; rw [z_bltF hk]; rfl)
set_option maxRecDepth 100000 in
theorem vP_X12_areJoined (pu : Nat → Option ((List Value → z_H → Prop) × (List Value → z_H → Int32))) : z_PV (m_X12_areJoined pu) := z_PVof 21 (show (List.range 21).all (z_pck cX12_areJoined p_X12_areJoined) = true by decide +kernel) (fun k hk => by show p_X12_areJoined k = none; unfold p_X12_areJoined; rw [z_bltF hk]; rfl)
set_option maxRecDepth 100000 in
theorem vP_X12_flags (pu : Nat → Option ((List Value → z_H → Prop) × (List Value → z_H → Int32))) : z_PV (m_X12_flags pu) := z_PVof 31 (show (List.range 31).all (z_pck cX12_flags p_X12_flags) = true by decide +kernel) (fun k hk => by show p_X12_flags k = none; unfold p_X12_flags; rw [z_bltF hk]; rfl)
set_option maxRecDepth 100000 in
theorem vP_X12_pairs (pu : Nat → Option ((List Value → z_H → Prop) × (List Value → z_H → Int32))) : z_PV (m_X12_pairs pu) := z_PVof 55 (show (List.range 55).all (z_pck cX12_pairs p_X12_pairs) = true by decide +kernel) (fun k hk => by show p_X12_pairs k = none; unfold p_X12_pairs; rw [z_bltF hk]; rfl)
set_option maxRecDepth 100000 in
theorem vP_X12_regularR (pu : Nat → Option ((List Value → z_H → Prop) × (List Value → z_H → Int32))) : z_PV (m_X12_regularR pu) := z_PVof 41 (show (List.range 41).all (z_pck cX12_regularR p_X12_regularR) = true by decide +kernel) (fun k hk => by show p_X12_regularR k = none; unfold p_X12_regularR; rw [z_bltF hk]; rfl)
set_option maxRecDepth 100000 in
theorem vP_X12_regularK (pu : Nat → Option ((List Value → z_H → Prop) × (List Value → z_H → Int32))) : z_PV (m_X12_regularK pu) := z_PVof 52 (show (List.range 52).all (z_pck cX12_regularK p_X12_regularK) = true by decide +kernel) (fun k hk => by show p_X12_regularK k = none; unfold p_X12_regularK; rw [z_bltF hk]; rfl)
set_option maxRecDepth 100000 in
theorem vP_X12_isRegular (pu : Nat → Option ((List Value → z_H → Prop) × (List Value → z_H → Int32))) : z_PV (m_X12_isRegular pu) := z_PVof 22 (show (List.range 22).all (z_pck cX12_isRegular p_X12_isRegular) = true by decide +kernel) (fun k hk => by show p_X12_isRegular k = none; unfold p_X12_isRegular; rw [z_bltF hk]; rfl)
set_option maxRecDepth 100000 in
theorem vP_X12_triangles (pu : Nat → Option ((List Value → z_H → Prop) × (List Value → z_H → Int32))) : z_PV (m_X12_triangles pu) := z_PVof 137 (show (List.range 137).all (z_pck cX12_triangles p_X12_triangles) = true by decide +kernel) (fun k hk => by show p_X12_triangles k = none; unfold p_X12_triangles; rw [z_bltF hk]; rfl)
set_option maxRecDepth 100000 in
theorem vP_X12_fours (pu : Nat → Option ((List Value → z_H → Prop) × (List Value → z_H → Int32))) : z_PV (m_X12_fours pu) := z_PVof 117 (show (List.range 117).all (z_pck cX12_fours p_X12_fours) = true by decide +kernel) (fun k hk => by show p_X12_fours k = none; unfold p_X12_fours; rw [z_bltF hk]; rfl)
set_option maxRecDepth 100000 in
theorem vP_X12_apart (pu : Nat → Option ((List Value → z_H → Prop) × (List Value → z_H → Int32))) : z_PV (m_X12_apart pu) := z_PVof 60 (show (List.range 60).all (z_pck cX12_apart p_X12_apart) = true by decide +kernel) (fun k hk => by show p_X12_apart k = none; unfold p_X12_apart; rw [z_bltF hk]; rfl)
set_option maxRecDepth 100000 in
theorem vP_X12_pieceOf (pu : Nat → Option ((List Value → z_H → Prop) × (List Value → z_H → Int32))) : z_PV (m_X12_pieceOf pu) := z_PVof 60 (show (List.range 60).all (z_pck cX12_pieceOf p_X12_pieceOf) = true by decide +kernel) (fun k hk => by show p_X12_pieceOf k = none; unfold p_X12_pieceOf; rw [z_bltF hk]; rfl)
set_option maxRecDepth 100000 in
theorem vP_X12_pieces (pu : Nat → Option ((List Value → z_H → Prop) × (List Value → z_H → Int32))) : z_PV (m_X12_pieces pu) := z_PVof 40 (show (List.range 40).all (z_pck cX12_pieces p_X12_pieces) = true by decide +kernel) (fun k hk => by show p_X12_pieces k = none; unfold p_X12_pieces; rw [z_bltF hk]; rfl)
set_option maxRecDepth 100000 in
theorem vP_X12_beginNaming (pu : Nat → Option ((List Value → z_H → Prop) × (List Value → z_H → Int32))) : z_PV (m_X12_beginNaming pu) := z_PVof 21 (show (List.range 21).all (z_pck cX12_beginNaming p_X12_beginNaming) = true by decide +kernel) (fun k hk => by show p_X12_beginNaming k = none; unfold p_X12_beginNaming; rw [z_bltF hk]; rfl)
set_option maxRecDepth 100000 in
theorem vP_X12_nextNaming (pu : Nat → Option ((List Value → z_H → Prop) × (List Value → z_H → Int32))) : z_PV (m_X12_nextNaming pu) := z_PVof 104 (show (List.range 104).all (z_pck cX12_nextNaming p_X12_nextNaming) = true by decide +kernel) (fun k hk => by show p_X12_nextNaming k = none; unfold p_X12_nextNaming; rw [z_bltF hk]; rfl)
set_option maxRecDepth 100000 in
theorem vP_X12_exchange (pu : Nat → Option ((List Value → z_H → Prop) × (List Value → z_H → Int32))) : z_PV (m_X12_exchange pu) := z_PVof 27 (show (List.range 27).all (z_pck cX12_exchange p_X12_exchange) = true by decide +kernel) (fun k hk => by show p_X12_exchange k = none; unfold p_X12_exchange; rw [z_bltF hk]; rfl)
set_option maxRecDepth 100000 in
theorem vP_X12_named (pu : Nat → Option ((List Value → z_H → Prop) × (List Value → z_H → Int32))) : z_PV (m_X12_named pu) := z_PVof 33 (show (List.range 33).all (z_pck cX12_named p_X12_named) = true by decide +kernel) (fun k hk => by show p_X12_named k = none; unfold p_X12_named; rw [z_bltF hk]; rfl)
set_option maxRecDepth 100000 in
theorem vP_X12_tellLines (pu : Nat → Option ((List Value → z_H → Prop) × (List Value → z_H → Int32))) : z_PV (m_X12_tellLines pu) := z_PVof 50 (show (List.range 50).all (z_pck cX12_tellLines p_X12_tellLines) = true by decide +kernel) (fun k hk => by show p_X12_tellLines k = none; unfold p_X12_tellLines; rw [z_bltF hk]; rfl)
set_option maxRecDepth 100000 in
theorem vP_X12_isSymmetry (pu : Nat → Option ((List Value → z_H → Prop) × (List Value → z_H → Int32))) : z_PV (m_X12_isSymmetry pu) := z_PVof 38 (show (List.range 38).all (z_pck cX12_isSymmetry p_X12_isSymmetry) = true by decide +kernel) (fun k hk => by show p_X12_isSymmetry k = none; unfold p_X12_isSymmetry; rw [z_bltF hk]; rfl)
set_option maxRecDepth 100000 in
theorem vP_X12_symmetries (pu : Nat → Option ((List Value → z_H → Prop) × (List Value → z_H → Int32))) : z_PV (m_X12_symmetries pu) := z_PVof 98 (show (List.range 98).all (z_pck cX12_symmetries p_X12_symmetries) = true by decide +kernel) (fun k hk => by show p_X12_symmetries k = none; unfold p_X12_symmetries; rw [z_bltF hk]; rfl)
set_option maxRecDepth 100000 in
theorem vP_X12_orbits (pu : Nat → Option ((List Value → z_H → Prop) × (List Value → z_H → Int32))) : z_PV (m_X12_orbits pu) := z_PVof 46 (show (List.range 46).all (z_pck cX12_orbits p_X12_orbits) = true by decide +kernel) (fun k hk => by show p_X12_orbits k = none; unfold p_X12_orbits; rw [z_bltF hk]; rfl)
set_option maxRecDepth 100000 in
theorem vP_X12_tellDual (pu : Nat → Option ((List Value → z_H → Prop) × (List Value → z_H → Int32))) : z_PV (m_X12_tellDual pu) := z_PVof 75 (show (List.range 75).all (z_pck cX12_tellDual p_X12_tellDual) = true by decide +kernel) (fun k hk => by show p_X12_tellDual k = none; unfold p_X12_tellDual; rw [z_bltF hk]; rfl)
set_option maxRecDepth 100000 in
theorem vP_X12_isDuality (pu : Nat → Option ((List Value → z_H → Prop) × (List Value → z_H → Int32))) : z_PV (m_X12_isDuality pu) := z_PVof 96 (show (List.range 96).all (z_pck cX12_isDuality p_X12_isDuality) = true by decide +kernel) (fun k hk => by show p_X12_isDuality k = none; unfold p_X12_isDuality; rw [z_bltF hk]; rfl)
set_option maxRecDepth 100000 in
theorem vP_X12_isPolarity (pu : Nat → Option ((List Value → z_H → Prop) × (List Value → z_H → Int32))) : z_PV (m_X12_isPolarity pu) := z_PVof 64 (show (List.range 64).all (z_pck cX12_isPolarity p_X12_isPolarity) = true by decide +kernel) (fun k hk => by show p_X12_isPolarity k = none; unfold p_X12_isPolarity; rw [z_bltF hk]; rfl)
set_option maxRecDepth 100000 in
theorem vP_X12_dualities (pu : Nat → Option ((List Value → z_H → Prop) × (List Value → z_H → Int32))) : z_PV (m_X12_dualities pu) := z_PVof 96 (show (List.range 96).all (z_pck cX12_dualities p_X12_dualities) = true by decide +kernel) (fun k hk => by show p_X12_dualities k = none; unfold p_X12_dualities; rw [z_bltF hk]; rfl)
set_option maxRecDepth 100000 in
theorem vP_X12_areInLine (pu : Nat → Option ((List Value → z_H → Prop) × (List Value → z_H → Int32))) : z_PV (m_X12_areInLine pu) := z_PVof 25 (show (List.range 25).all (z_pck cX12_areInLine p_X12_areInLine) = true by decide +kernel) (fun k hk => by show p_X12_areInLine k = none; unfold p_X12_areInLine; rw [z_bltF hk]; rfl)
set_option maxRecDepth 100000 in
theorem vP_X12_areInLineAt (pu : Nat → Option ((List Value → z_H → Prop) × (List Value → z_H → Int32))) : z_PV (m_X12_areInLineAt pu) := z_PVof 58 (show (List.range 58).all (z_pck cX12_areInLineAt p_X12_areInLineAt) = true by decide +kernel) (fun k hk => by show p_X12_areInLineAt k = none; unfold p_X12_areInLineAt; rw [z_bltF hk]; rfl)
set_option maxRecDepth 100000 in
theorem vP_X12_areAtOne (pu : Nat → Option ((List Value → z_H → Prop) × (List Value → z_H → Int32))) : z_PV (m_X12_areAtOne pu) := z_PVof 48 (show (List.range 48).all (z_pck cX12_areAtOne p_X12_areAtOne) = true by decide +kernel) (fun k hk => by show p_X12_areAtOne k = none; unfold p_X12_areAtOne; rw [z_bltF hk]; rfl)
set_option maxRecDepth 100000 in
theorem vP_X12_doesSlip (pu : Nat → Option ((List Value → z_H → Prop) × (List Value → z_H → Int32))) : z_PV (m_X12_doesSlip pu) := z_PVof 107 (show (List.range 107).all (z_pck cX12_doesSlip p_X12_doesSlip) = true by decide +kernel) (fun k hk => by show p_X12_doesSlip k = none; unfold p_X12_doesSlip; rw [z_bltF hk]; rfl)
set_option maxRecDepth 100000 in
theorem vP_X12_slips (pu : Nat → Option ((List Value → z_H → Prop) × (List Value → z_H → Int32))) : z_PV (m_X12_slips pu) := z_PVof 36 (show (List.range 36).all (z_pck cX12_slips p_X12_slips) = true by decide +kernel) (fun k hk => by show p_X12_slips k = none; unfold p_X12_slips; rw [z_bltF hk]; rfl)
set_option maxRecDepth 100000 in
theorem vP_X12_strays (pu : Nat → Option ((List Value → z_H → Prop) × (List Value → z_H → Int32))) : z_PV (m_X12_strays pu) := z_PVof 87 (show (List.range 87).all (z_pck cX12_strays p_X12_strays) = true by decide +kernel) (fun k hk => by show p_X12_strays k = none; unfold p_X12_strays; rw [z_bltF hk]; rfl)
set_option maxRecDepth 100000 in
theorem vP_X12_goesRound (pu : Nat → Option ((List Value → z_H → Prop) × (List Value → z_H → Int32))) : z_PV (m_X12_goesRound pu) := z_PVof 121 (show (List.range 121).all (z_pck cX12_goesRound p_X12_goesRound) = true by decide +kernel) (fun k hk => by show p_X12_goesRound k = none; unfold p_X12_goesRound; rw [z_bltF hk]; rfl)
set_option maxRecDepth 100000 in
theorem vP_X12_girth (pu : Nat → Option ((List Value → z_H → Prop) × (List Value → z_H → Int32))) : z_PV (m_X12_girth pu) := z_PVof 52 (show (List.range 52).all (z_pck cX12_girth p_X12_girth) = true by decide +kernel) (fun k hk => by show p_X12_girth k = none; unfold p_X12_girth; rw [z_bltF hk]; rfl)
set_option maxRecDepth 100000 in
theorem vP_X12_count (pu : Nat → Option ((List Value → z_H → Prop) × (List Value → z_H → Int32))) : z_PV (m_X12_count pu) := z_PVof 256 (show (List.range 256).all (z_pck cX12_count p_X12_count) = true by decide +kernel) (fun k hk => by show p_X12_count k = none; unfold p_X12_count; rw [z_bltF hk]; rfl)
set_option maxRecDepth 100000 in
theorem vP_X12_isPoint (pu : Nat → Option ((List Value → z_H → Prop) × (List Value → z_H → Int32))) : z_PV (m_X12_isPoint pu) := z_PVof 12 (show (List.range 12).all (z_pck cX12_isPoint p_X12_isPoint) = true by decide +kernel) (fun k hk => by show p_X12_isPoint k = none; unfold p_X12_isPoint; rw [z_bltF hk]; rfl)
set_option maxRecDepth 100000 in
theorem vP_X12_isLine (pu : Nat → Option ((List Value → z_H → Prop) × (List Value → z_H → Int32))) : z_PV (m_X12_isLine pu) := z_PVof 12 (show (List.range 12).all (z_pck cX12_isLine p_X12_isLine) = true by decide +kernel) (fun k hk => by show p_X12_isLine k = none; unfold p_X12_isLine; rw [z_bltF hk]; rfl)
set_option maxRecDepth 100000 in
theorem vP_X12_line (pu : Nat → Option ((List Value → z_H → Prop) × (List Value → z_H → Int32))) : z_PV (m_X12_line pu) := z_PVof 27 (show (List.range 27).all (z_pck cX12_line p_X12_line) = true by decide +kernel) (fun k hk => by show p_X12_line k = none; unfold p_X12_line; rw [z_bltF hk]; rfl)
set_option maxRecDepth 100000 in
theorem vP_X12_point (pu : Nat → Option ((List Value → z_H → Prop) × (List Value → z_H → Int32))) : z_PV (m_X12_point pu) := z_PVof 118 (show (List.range 118).all (z_pck cX12_point p_X12_point) = true by decide +kernel) (fun k hk => by show p_X12_point k = none; unfold p_X12_point; rw [z_bltF hk]; rfl)
set_option maxRecDepth 100000 in
theorem vP_X12_joined (pu : Nat → Option ((List Value → z_H → Prop) × (List Value → z_H → Int32))) : z_PV (m_X12_joined pu) := z_PVof 52 (show (List.range 52).all (z_pck cX12_joined p_X12_joined) = true by decide +kernel) (fun k hk => by show p_X12_joined k = none; unfold p_X12_joined; rw [z_bltF hk]; rfl)
set_option maxRecDepth 100000 in
theorem vP_X12_meet (pu : Nat → Option ((List Value → z_H → Prop) × (List Value → z_H → Int32))) : z_PV (m_X12_meet pu) := z_PVof 65 (show (List.range 65).all (z_pck cX12_meet p_X12_meet) = true by decide +kernel) (fun k hk => by show p_X12_meet k = none; unfold p_X12_meet; rw [z_bltF hk]; rfl)
set_option maxRecDepth 100000 in
theorem vP_X12_symmetry (pu : Nat → Option ((List Value → z_H → Prop) × (List Value → z_H → Int32))) : z_PV (m_X12_symmetry pu) := z_PVof 86 (show (List.range 86).all (z_pck cX12_symmetry p_X12_symmetry) = true by decide +kernel) (fun k hk => by show p_X12_symmetry k = none; unfold p_X12_symmetry; rw [z_bltF hk]; rfl)
set_option maxRecDepth 100000 in
theorem vP_X12_putSorted (pu : Nat → Option ((List Value → z_H → Prop) × (List Value → z_H → Int32))) : z_PV (m_X12_putSorted pu) := z_PVof 46 (show (List.range 46).all (z_pck cX12_putSorted p_X12_putSorted) = true by decide +kernel) (fun k hk => by show p_X12_putSorted k = none; unfold p_X12_putSorted; rw [z_bltF hk]; rfl)
set_option maxRecDepth 100000 in
theorem vP_X12_compare (pu : Nat → Option ((List Value → z_H → Prop) × (List Value → z_H → Int32))) : z_PV (m_X12_compare pu) := z_PVof 32 (show (List.range 32).all (z_pck cX12_compare p_X12_compare) = true by decide +kernel) (fun k hk => by show p_X12_compare k = none; unfold p_X12_compare; rw [z_bltF hk]; rfl)
set_option maxRecDepth 100000 in
theorem vP_X12_tellLeast (pu : Nat → Option ((List Value → z_H → Prop) × (List Value → z_H → Int32))) : z_PV (m_X12_tellLeast pu) := z_PVof 127 (show (List.range 127).all (z_pck cX12_tellLeast p_X12_tellLeast) = true by decide +kernel) (fun k hk => by show p_X12_tellLeast k = none; unfold p_X12_tellLeast; rw [z_bltF hk]; rfl)
set_option maxRecDepth 100000 in
theorem vP_X12_normal (pu : Nat → Option ((List Value → z_H → Prop) × (List Value → z_H → Int32))) : z_PV (m_X12_normal pu) := z_PVof 30 (show (List.range 30).all (z_pck cX12_normal p_X12_normal) = true by decide +kernel) (fun k hk => by show p_X12_normal k = none; unfold p_X12_normal; rw [z_bltF hk]; rfl)
set_option maxRecDepth 100000 in
theorem vP_X12_dual (pu : Nat → Option ((List Value → z_H → Prop) × (List Value → z_H → Int32))) : z_PV (m_X12_dual pu) := z_PVof 43 (show (List.range 43).all (z_pck cX12_dual p_X12_dual) = true by decide +kernel) (fun k hk => by show p_X12_dual k = none; unfold p_X12_dual; rw [z_bltF hk]; rfl)
set_option maxRecDepth 100000 in
theorem vP_X12_shelfAt (pu : Nat → Option ((List Value → z_H → Prop) × (List Value → z_H → Int32))) : z_PV (m_X12_shelfAt pu) := z_PVof 8 (show (List.range 8).all (z_pck cX12_shelfAt p_X12_shelfAt) = true by decide +kernel) (fun k hk => by show p_X12_shelfAt k = none; unfold p_X12_shelfAt; rw [z_bltF hk]; rfl)
set_option maxRecDepth 100000 in
theorem vP_X12_hasShelf (pu : Nat → Option ((List Value → z_H → Prop) × (List Value → z_H → Int32))) : z_PV (m_X12_hasShelf pu) := z_PVof 28 (show (List.range 28).all (z_pck cX12_hasShelf p_X12_hasShelf) = true by decide +kernel) (fun k hk => by show p_X12_hasShelf k = none; unfold p_X12_hasShelf; rw [z_bltF hk]; rfl)
set_option maxRecDepth 100000 in
theorem vP_X12_onShelf (pu : Nat → Option ((List Value → z_H → Prop) × (List Value → z_H → Int32))) : z_PV (m_X12_onShelf pu) := z_PVof 14 (show (List.range 14).all (z_pck cX12_onShelf p_X12_onShelf) = true by decide +kernel) (fun k hk => by show p_X12_onShelf k = none; unfold p_X12_onShelf; rw [z_bltF hk]; rfl)
set_option maxRecDepth 100000 in
theorem vP_X12_likes (pu : Nat → Option ((List Value → z_H → Prop) × (List Value → z_H → Int32))) : z_PV (m_X12_likes pu) := z_PVof 130 (show (List.range 130).all (z_pck cX12_likes p_X12_likes) = true by decide +kernel) (fun k hk => by show p_X12_likes k = none; unfold p_X12_likes; rw [z_bltF hk]; rfl)
set_option maxRecDepth 100000 in
theorem vP_X12_lies (pu : Nat → Option ((List Value → z_H → Prop) × (List Value → z_H → Int32))) : z_PV (m_X12_lies pu) := z_PVof 65 (show (List.range 65).all (z_pck cX12_lies p_X12_lies) = true by decide +kernel) (fun k hk => by show p_X12_lies k = none; unfold p_X12_lies; rw [z_bltF hk]; rfl)
set_option maxRecDepth 100000 in
theorem vP_X12_tellWays (pu : Nat → Option ((List Value → z_H → Prop) × (List Value → z_H → Int32))) : z_PV (m_X12_tellWays pu) := z_PVof 120 (show (List.range 120).all (z_pck cX12_tellWays p_X12_tellWays) = true by decide +kernel) (fun k hk => by show p_X12_tellWays k = none; unfold p_X12_tellWays; rw [z_bltF hk]; rfl)
set_option maxRecDepth 100000 in
theorem vP_X12_shelf (pu : Nat → Option ((List Value → z_H → Prop) × (List Value → z_H → Int32))) : z_PV (m_X12_shelf pu) := z_PVof 76 (show (List.range 76).all (z_pck cX12_shelf p_X12_shelf) = true by decide +kernel) (fun k hk => by show p_X12_shelf k = none; unfold p_X12_shelf; rw [z_bltF hk]; rfl)
set_option maxRecDepth 100000 in
theorem vP_X12_way (pu : Nat → Option ((List Value → z_H → Prop) × (List Value → z_H → Int32))) : z_PV (m_X12_way pu) := z_PVof 65 (show (List.range 65).all (z_pck cX12_way p_X12_way) = true by decide +kernel) (fun k hk => by show p_X12_way k = none; unfold p_X12_way; rw [z_bltF hk]; rfl)
set_option maxRecDepth 100000 in
theorem vP_X12_refuse (pu : Nat → Option ((List Value → z_H → Prop) × (List Value → z_H → Int32))) : z_PV (m_X12_refuse pu) := z_PVof 12 (show (List.range 12).all (z_pck cX12_refuse p_X12_refuse) = true by decide +kernel) (fun k hk => by show p_X12_refuse k = none; unfold p_X12_refuse; rw [z_bltF hk]; rfl)
set_option maxRecDepth 100000 in
theorem vP_X12_refused (pu : Nat → Option ((List Value → z_H → Prop) × (List Value → z_H → Int32))) : z_PV (m_X12_refused pu) := z_PVof 13 (show (List.range 13).all (z_pck cX12_refused p_X12_refused) = true by decide +kernel) (fun k hk => by show p_X12_refused k = none; unfold p_X12_refused; rw [z_bltF hk]; rfl)
set_option maxRecDepth 100000 in
theorem vP_X12_copyTo (pu : Nat → Option ((List Value → z_H → Prop) × (List Value → z_H → Int32))) : z_PV (m_X12_copyTo pu) := z_PVof 21 (show (List.range 21).all (z_pck cX12_copyTo p_X12_copyTo) = true by decide +kernel) (fun k hk => by show p_X12_copyTo k = none; unfold p_X12_copyTo; rw [z_bltF hk]; rfl)
set_option maxRecDepth 100000 in
theorem vP_X12_keep (pu : Nat → Option ((List Value → z_H → Prop) × (List Value → z_H → Int32))) : z_PV (m_X12_keep pu) := z_PVof 101 (show (List.range 101).all (z_pck cX12_keep p_X12_keep) = true by decide +kernel) (fun k hk => by show p_X12_keep k = none; unfold p_X12_keep; rw [z_bltF hk]; rfl)
set_option maxRecDepth 100000 in
theorem vP_X12_canAdd (pu : Nat → Option ((List Value → z_H → Prop) × (List Value → z_H → Int32))) : z_PV (m_X12_canAdd pu) := z_PVof 54 (show (List.range 54).all (z_pck cX12_canAdd p_X12_canAdd) = true by decide +kernel) (fun k hk => by show p_X12_canAdd k = none; unfold p_X12_canAdd; rw [z_bltF hk]; rfl)
set_option maxRecDepth 100000 in
theorem vP_X12_addNow (pu : Nat → Option ((List Value → z_H → Prop) × (List Value → z_H → Int32))) : z_PV (m_X12_addNow pu) := z_PVof 25 (show (List.range 25).all (z_pck cX12_addNow p_X12_addNow) = true by decide +kernel) (fun k hk => by show p_X12_addNow k = none; unfold p_X12_addNow; rw [z_bltF hk]; rfl)
set_option maxRecDepth 100000 in
theorem vP_X12_add (pu : Nat → Option ((List Value → z_H → Prop) × (List Value → z_H → Int32))) : z_PV (m_X12_add pu) := z_PVof 34 (show (List.range 34).all (z_pck cX12_add p_X12_add) = true by decide +kernel) (fun k hk => by show p_X12_add k = none; unfold p_X12_add; rw [z_bltF hk]; rfl)
set_option maxRecDepth 100000 in
theorem vP_X12_dropNow (pu : Nat → Option ((List Value → z_H → Prop) × (List Value → z_H → Int32))) : z_PV (m_X12_dropNow pu) := z_PVof 68 (show (List.range 68).all (z_pck cX12_dropNow p_X12_dropNow) = true by decide +kernel) (fun k hk => by show p_X12_dropNow k = none; unfold p_X12_dropNow; rw [z_bltF hk]; rfl)
set_option maxRecDepth 100000 in
theorem vP_X12_drop (pu : Nat → Option ((List Value → z_H → Prop) × (List Value → z_H → Int32))) : z_PV (m_X12_drop pu) := z_PVof 28 (show (List.range 28).all (z_pck cX12_drop p_X12_drop) = true by decide +kernel) (fun k hk => by show p_X12_drop k = none; unfold p_X12_drop; rw [z_bltF hk]; rfl)
set_option maxRecDepth 100000 in
theorem vP_X12_swapAt (pu : Nat → Option ((List Value → z_H → Prop) × (List Value → z_H → Int32))) : z_PV (m_X12_swapAt pu) := z_PVof 27 (show (List.range 27).all (z_pck cX12_swapAt p_X12_swapAt) = true by decide +kernel) (fun k hk => by show p_X12_swapAt k = none; unfold p_X12_swapAt; rw [z_bltF hk]; rfl)
set_option maxRecDepth 100000 in
theorem vP_X12_swap (pu : Nat → Option ((List Value → z_H → Prop) × (List Value → z_H → Int32))) : z_PV (m_X12_swap pu) := z_PVof 108 (show (List.range 108).all (z_pck cX12_swap p_X12_swap) = true by decide +kernel) (fun k hk => by show p_X12_swap k = none; unfold p_X12_swap; rw [z_bltF hk]; rfl)
set_option maxRecDepth 100000 in
theorem vP_X12_turn (pu : Nat → Option ((List Value → z_H → Prop) × (List Value → z_H → Int32))) : z_PV (m_X12_turn pu) := z_PVof 82 (show (List.range 82).all (z_pck cX12_turn p_X12_turn) = true by decide +kernel) (fun k hk => by show p_X12_turn k = none; unfold p_X12_turn; rw [z_bltF hk]; rfl)
set_option maxRecDepth 100000 in
theorem vP_X12_grow (pu : Nat → Option ((List Value → z_H → Prop) × (List Value → z_H → Int32))) : z_PV (m_X12_grow pu) := z_PVof 128 (show (List.range 128).all (z_pck cX12_grow p_X12_grow) = true by decide +kernel) (fun k hk => by show p_X12_grow k = none; unfold p_X12_grow; rw [z_bltF hk]; rfl)
set_option maxRecDepth 100000 in
theorem vP_X12_place (pu : Nat → Option ((List Value → z_H → Prop) × (List Value → z_H → Int32))) : z_PV (m_X12_place pu) := z_PVof 66 (show (List.range 66).all (z_pck cX12_place p_X12_place) = true by decide +kernel) (fun k hk => by show p_X12_place k = none; unfold p_X12_place; rw [z_bltF hk]; rfl)
set_option maxRecDepth 100000 in
theorem vP_X12_put (pu : Nat → Option ((List Value → z_H → Prop) × (List Value → z_H → Int32))) : z_PV (m_X12_put pu) := z_PVof 78 (show (List.range 78).all (z_pck cX12_put p_X12_put) = true by decide +kernel) (fun k hk => by show p_X12_put k = none; unfold p_X12_put; rw [z_bltF hk]; rfl)
set_option maxRecDepth 100000 in
theorem vP_X12_take (pu : Nat → Option ((List Value → z_H → Prop) × (List Value → z_H → Int32))) : z_PV (m_X12_take pu) := z_PVof 53 (show (List.range 53).all (z_pck cX12_take p_X12_take) = true by decide +kernel) (fun k hk => by show p_X12_take k = none; unfold p_X12_take; rw [z_bltF hk]; rfl)
set_option maxRecDepth 100000 in
theorem vP_X12_undo (pu : Nat → Option ((List Value → z_H → Prop) × (List Value → z_H → Int32))) : z_PV (m_X12_undo pu) := z_PVof 65 (show (List.range 65).all (z_pck cX12_undo p_X12_undo) = true by decide +kernel) (fun k hk => by show p_X12_undo k = none; unfold p_X12_undo; rw [z_bltF hk]; rfl)
set_option maxRecDepth 100000 in
theorem vP_X12_isLeast (pu : Nat → Option ((List Value → z_H → Prop) × (List Value → z_H → Int32))) : z_PV (m_X12_isLeast pu) := z_PVof 73 (show (List.range 73).all (z_pck cX12_isLeast p_X12_isLeast) = true by decide +kernel) (fun k hk => by show p_X12_isLeast k = none; unfold p_X12_isLeast; rw [z_bltF hk]; rfl)
set_option maxRecDepth 100000 in
theorem vP_X12_listFrom (pu : Nat → Option ((List Value → z_H → Prop) × (List Value → z_H → Int32))) : z_PV (m_X12_listFrom pu) := z_PVof 175 (show (List.range 175).all (z_pck cX12_listFrom p_X12_listFrom) = true by decide +kernel) (fun k hk => by show p_X12_listFrom k = none; unfold p_X12_listFrom; rw [z_bltF hk]; rfl)
set_option maxRecDepth 100000 in
theorem vP_X12_list (pu : Nat → Option ((List Value → z_H → Prop) × (List Value → z_H → Int32))) : z_PV (m_X12_list pu) := z_PVof 124 (show (List.range 124).all (z_pck cX12_list p_X12_list) = true by decide +kernel) (fun k hk => by show p_X12_list k = none; unfold p_X12_list; rw [z_bltF hk]; rfl)
set_option maxRecDepth 100000 in
theorem vP_X12_areInLineOn (pu : Nat → Option ((List Value → z_H → Prop) × (List Value → z_H → Int32))) : z_PV (m_X12_areInLineOn pu) := z_PVof 169 (show (List.range 169).all (z_pck cX12_areInLineOn p_X12_areInLineOn) = true by decide +kernel) (fun k hk => by show p_X12_areInLineOn k = none; unfold p_X12_areInLineOn; rw [z_bltF hk]; rfl)
set_option maxRecDepth 100000 in
theorem vP_X12_fitsWith (pu : Nat → Option ((List Value → z_H → Prop) × (List Value → z_H → Int32))) : z_PV (m_X12_fitsWith pu) := z_PVof 96 (show (List.range 96).all (z_pck cX12_fitsWith p_X12_fitsWith) = true by decide +kernel) (fun k hk => by show p_X12_fitsWith k = none; unfold p_X12_fitsWith; rw [z_bltF hk]; rfl)
set_option maxRecDepth 100000 in
theorem vP_X12_draws (pu : Nat → Option ((List Value → z_H → Prop) × (List Value → z_H → Int32))) : z_PV (m_X12_draws pu) := z_PVof 102 (show (List.range 102).all (z_pck cX12_draws p_X12_draws) = true by decide +kernel) (fun k hk => by show p_X12_draws k = none; unfold p_X12_draws; rw [z_bltF hk]; rfl)
set_option maxRecDepth 100000 in
theorem vP_X12_layPlace (pu : Nat → Option ((List Value → z_H → Prop) × (List Value → z_H → Int32))) : z_PV (m_X12_layPlace pu) := z_PVof 41 (show (List.range 41).all (z_pck cX12_layPlace p_X12_layPlace) = true by decide +kernel) (fun k hk => by show p_X12_layPlace k = none; unfold p_X12_layPlace; rw [z_bltF hk]; rfl)
set_option maxRecDepth 100000 in
theorem vP_X12_square (pu : Nat → Option ((List Value → z_H → Prop) × (List Value → z_H → Int32))) : z_PV (m_X12_square pu) := z_PVof 109 (show (List.range 109).all (z_pck cX12_square p_X12_square) = true by decide +kernel) (fun k hk => by show p_X12_square k = none; unfold p_X12_square; rw [z_bltF hk]; rfl)
set_option maxRecDepth 100000 in
theorem vP_X12_plane (pu : Nat → Option ((List Value → z_H → Prop) × (List Value → z_H → Int32))) : z_PV (m_X12_plane pu) := z_PVof 171 (show (List.range 171).all (z_pck cX12_plane p_X12_plane) = true by decide +kernel) (fun k hk => by show p_X12_plane k = none; unfold p_X12_plane; rw [z_bltF hk]; rfl)
set_option maxRecDepth 100000 in
theorem vP_X12_hasLine (pu : Nat → Option ((List Value → z_H → Prop) × (List Value → z_H → Int32))) : z_PV (m_X12_hasLine pu) := z_PVof 42 (show (List.range 42).all (z_pck cX12_hasLine p_X12_hasLine) = true by decide +kernel) (fun k hk => by show p_X12_hasLine k = none; unfold p_X12_hasLine; rw [z_bltF hk]; rfl)
set_option maxRecDepth 100000 in
theorem vP_X12_all (pu : Nat → Option ((List Value → z_H → Prop) × (List Value → z_H → Int32))) : z_PV (m_X12_all pu) := z_PVof 9 (show (List.range 9).all (z_pck cX12_all p_X12_all) = true by decide +kernel) (fun k hk => by show p_X12_all k = none; unfold p_X12_all; rw [z_bltF hk]; rfl)
set_option maxRecDepth 100000 in
theorem vP_X12_cover (pu : Nat → Option ((List Value → z_H → Prop) × (List Value → z_H → Int32))) : z_PV (m_X12_cover pu) := z_PVof 51 (show (List.range 51).all (z_pck cX12_cover p_X12_cover) = true by decide +kernel) (fun k hk => by show p_X12_cover k = none; unfold p_X12_cover; rw [z_bltF hk]; rfl)
set_option maxRecDepth 100000 in
theorem vP_X12_cap (pu : Nat → Option ((List Value → z_H → Prop) × (List Value → z_H → Int32))) : z_PV (m_X12_cap pu) := z_PVof 41 (show (List.range 41).all (z_pck cX12_cap p_X12_cap) = true by decide +kernel) (fun k hk => by show p_X12_cap k = none; unfold p_X12_cap; rw [z_bltF hk]; rfl)
set_option maxRecDepth 100000 in
theorem vP_X12_tellHalves (pu : Nat → Option ((List Value → z_H → Prop) × (List Value → z_H → Int32))) : z_PV (m_X12_tellHalves pu) := z_PVof 83 (show (List.range 83).all (z_pck cX12_tellHalves p_X12_tellHalves) = true by decide +kernel) (fun k hk => by show p_X12_tellHalves k = none; unfold p_X12_tellHalves; rw [z_bltF hk]; rfl)
set_option maxRecDepth 100000 in
theorem vP_X12_tellSpreads (pu : Nat → Option ((List Value → z_H → Prop) × (List Value → z_H → Int32))) : z_PV (m_X12_tellSpreads pu) := z_PVof 133 (show (List.range 133).all (z_pck cX12_tellSpreads p_X12_tellSpreads) = true by decide +kernel) (fun k hk => by show p_X12_tellSpreads k = none; unfold p_X12_tellSpreads; rw [z_bltF hk]; rfl)
set_option maxRecDepth 100000 in
theorem vP_X12_set (pu : Nat → Option ((List Value → z_H → Prop) × (List Value → z_H → Int32))) : z_PV (m_X12_set pu) := z_PVof 102 (show (List.range 102).all (z_pck cX12_set p_X12_set) = true by decide +kernel) (fun k hk => by show p_X12_set k = none; unfold p_X12_set; rw [z_bltF hk]; rfl)
set_option maxRecDepth 100000 in
theorem vP_X12_far (pu : Nat → Option ((List Value → z_H → Prop) × (List Value → z_H → Int32))) : z_PV (m_X12_far pu) := z_PVof 109 (show (List.range 109).all (z_pck cX12_far p_X12_far) = true by decide +kernel) (fun k hk => by show p_X12_far k = none; unfold p_X12_far; rw [z_bltF hk]; rfl)
set_option maxRecDepth 100000 in
theorem vP_X12_movesTo (pu : Nat → Option ((List Value → z_H → Prop) × (List Value → z_H → Int32))) : z_PV (m_X12_movesTo pu) := z_PVof 43 (show (List.range 43).all (z_pck cX12_movesTo p_X12_movesTo) = true by decide +kernel) (fun k hk => by show p_X12_movesTo k = none; unfold p_X12_movesTo; rw [z_bltF hk]; rfl)
set_option maxRecDepth 100000 in
theorem vP_X12_bestOf (pu : Nat → Option ((List Value → z_H → Prop) × (List Value → z_H → Int32))) : z_PV (m_X12_bestOf pu) := z_PVof 57 (show (List.range 57).all (z_pck cX12_bestOf p_X12_bestOf) = true by decide +kernel) (fun k hk => by show p_X12_bestOf k = none; unfold p_X12_bestOf; rw [z_bltF hk]; rfl)
set_option maxRecDepth 100000 in
theorem vP_X12_tellGame (pu : Nat → Option ((List Value → z_H → Prop) × (List Value → z_H → Int32))) : z_PV (m_X12_tellGame pu) := z_PVof 65 (show (List.range 65).all (z_pck cX12_tellGame p_X12_tellGame) = true by decide +kernel) (fun k hk => by show p_X12_tellGame k = none; unfold p_X12_tellGame; rw [z_bltF hk]; rfl)
set_option maxRecDepth 100000 in
theorem vP_X12_game (pu : Nat → Option ((List Value → z_H → Prop) × (List Value → z_H → Int32))) : z_PV (m_X12_game pu) := z_PVof 65 (show (List.range 65).all (z_pck cX12_game p_X12_game) = true by decide +kernel) (fun k hk => by show p_X12_game k = none; unfold p_X12_game; rw [z_bltF hk]; rfl)
set_option maxRecDepth 100000 in
theorem vP_X12_draw (pu : Nat → Option ((List Value → z_H → Prop) × (List Value → z_H → Int32))) : z_PV (m_X12_draw pu) := z_PVof 30 (show (List.range 30).all (z_pck cX12_draw p_X12_draw) = true by decide +kernel) (fun k hk => by show p_X12_draw k = none; unfold p_X12_draw; rw [z_bltF hk]; rfl)
set_option maxRecDepth 100000 in
theorem vP_X12_years (pu : Nat → Option ((List Value → z_H → Prop) × (List Value → z_H → Int32))) : z_PV (m_X12_years pu) := z_PVof 220 (show (List.range 220).all (z_pck cX12_years p_X12_years) = true by decide +kernel) (fun k hk => by show p_X12_years k = none; unfold p_X12_years; rw [z_bltF hk]; rfl)
set_option maxRecDepth 100000 in
theorem vP_X12_image (pu : Nat → Option ((List Value → z_H → Prop) × (List Value → z_H → Int32))) : z_PV (m_X12_image pu) := z_PVof 52 (show (List.range 52).all (z_pck cX12_image p_X12_image) = true by decide +kernel) (fun k hk => by show p_X12_image k = none; unfold p_X12_image; rw [z_bltF hk]; rfl)
set_option maxRecDepth 100000 in
theorem vP_X12_restore (pu : Nat → Option ((List Value → z_H → Prop) × (List Value → z_H → Int32))) : z_PV (m_X12_restore pu) := z_PVof 57 (show (List.range 57).all (z_pck cX12_restore p_X12_restore) = true by decide +kernel) (fun k hk => by show p_X12_restore k = none; unfold p_X12_restore; rw [z_bltF hk]; rfl)
