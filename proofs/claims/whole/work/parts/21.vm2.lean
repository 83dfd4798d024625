set_option maxRecDepth 100000 in
theorem vP_X11_init (pu : Nat → Option ((List Value → z_H → Prop) × (List Value → z_H → Int32))) : z_PV (m_X11_init pu) := z_PVof 166 (show (List.range 166).all (z_pck cX11_init p_X11_init) = true by decide +kernel) (fun k hk => by show p_X11_init k = none; unfold p_X11_init; rw [z_bltF hk]; rfl)
set_option maxRecDepth 100000 in
theorem vP_X11_feed (pu : Nat → Option ((List Value → z_H → Prop) × (List Value → z_H → Int32))) : z_PV (m_X11_feed pu) := z_PVof 47 (show (List.range 47).all (z_pck cX11_feed p_X11_feed) = true by decide +kernel) (fun k hk => by show p_X11_feed k = none; unfold p_X11_feed; rw [z_bltF hk]; rfl)
set_option maxRecDepth 100000 in
theorem vP_X11_scheme (pu : Nat → Option ((List Value → z_H → Prop) × (List Value → z_H → Int32))) : z_PV (m_X11_scheme pu) := z_PVof 118 (show (List.range 118).all (z_pck cX11_scheme p_X11_scheme) = true by decide +kernel) (fun k hk => by show p_X11_scheme k = none; unfold p_X11_scheme; rw [z_bltF hk]; rfl)
set_option maxRecDepth 100000 in
theorem vP_X11_fault (pu : Nat → Option ((List Value → z_H → Prop) × (List Value → z_H → Int32))) : z_PV (m_X11_fault pu) := z_PVof 5 (show (List.range 5).all (z_pck cX11_fault p_X11_fault) = true by decide +kernel) (fun k hk => by show p_X11_fault k = none; unfold p_X11_fault; rw [z_bltF hk]; rfl)
set_option maxRecDepth 100000 in
theorem vP_X11_count (pu : Nat → Option ((List Value → z_H → Prop) × (List Value → z_H → Int32))) : z_PV (m_X11_count pu) := z_PVof 286 (show (List.range 286).all (z_pck cX11_count p_X11_count) = true by decide +kernel) (fun k hk => by show p_X11_count k = none; unfold p_X11_count; rw [z_bltF hk]; rfl)
set_option maxRecDepth 100000 in
theorem vP_X11_line (pu : Nat → Option ((List Value → z_H → Prop) × (List Value → z_H → Int32))) : z_PV (m_X11_line pu) := z_PVof 18 (show (List.range 18).all (z_pck cX11_line p_X11_line) = true by decide +kernel) (fun k hk => by show p_X11_line k = none; unfold p_X11_line; rw [z_bltF hk]; rfl)
set_option maxRecDepth 100000 in
theorem vP_X11_point (pu : Nat → Option ((List Value → z_H → Prop) × (List Value → z_H → Int32))) : z_PV (m_X11_point pu) := z_PVof 113 (show (List.range 113).all (z_pck cX11_point p_X11_point) = true by decide +kernel) (fun k hk => by show p_X11_point k = none; unfold p_X11_point; rw [z_bltF hk]; rfl)
set_option maxRecDepth 100000 in
theorem vP_X11_joined (pu : Nat → Option ((List Value → z_H → Prop) × (List Value → z_H → Int32))) : z_PV (m_X11_joined pu) := z_PVof 33 (show (List.range 33).all (z_pck cX11_joined p_X11_joined) = true by decide +kernel) (fun k hk => by show p_X11_joined k = none; unfold p_X11_joined; rw [z_bltF hk]; rfl)
set_option maxRecDepth 100000 in
theorem vP_X11_meet (pu : Nat → Option ((List Value → z_H → Prop) × (List Value → z_H → Int32))) : z_PV (m_X11_meet pu) := z_PVof 54 (show (List.range 54).all (z_pck cX11_meet p_X11_meet) = true by decide +kernel) (fun k hk => by show p_X11_meet k = none; unfold p_X11_meet; rw [z_bltF hk]; rfl)
set_option maxRecDepth 100000 in
theorem vP_X11_symmetry (pu : Nat → Option ((List Value → z_H → Prop) × (List Value → z_H → Int32))) : z_PV (m_X11_symmetry pu) := z_PVof 54 (show (List.range 54).all (z_pck cX11_symmetry p_X11_symmetry) = true by decide +kernel) (fun k hk => by show p_X11_symmetry k = none; unfold p_X11_symmetry; rw [z_bltF hk]; rfl)
set_option maxRecDepth 100000 in
theorem vP_X11_normal (pu : Nat → Option ((List Value → z_H → Prop) × (List Value → z_H → Int32))) : z_PV (m_X11_normal pu) := z_PVof 22 (show (List.range 22).all (z_pck cX11_normal p_X11_normal) = true by decide +kernel) (fun k hk => by show p_X11_normal k = none; unfold p_X11_normal; rw [z_bltF hk]; rfl)
set_option maxRecDepth 100000 in
theorem vP_X11_dual (pu : Nat → Option ((List Value → z_H → Prop) × (List Value → z_H → Int32))) : z_PV (m_X11_dual pu) := z_PVof 60 (show (List.range 60).all (z_pck cX11_dual p_X11_dual) = true by decide +kernel) (fun k hk => by show p_X11_dual k = none; unfold p_X11_dual; rw [z_bltF hk]; rfl)
set_option maxRecDepth 100000 in
theorem vP_X11_shelf (pu : Nat → Option ((List Value → z_H → Prop) × (List Value → z_H → Int32))) : z_PV (m_X11_shelf pu) := z_PVof 86 (show (List.range 86).all (z_pck cX11_shelf p_X11_shelf) = true by decide +kernel) (fun k hk => by show p_X11_shelf k = none; unfold p_X11_shelf; rw [z_bltF hk]; rfl)
set_option maxRecDepth 100000 in
theorem vP_X11_way (pu : Nat → Option ((List Value → z_H → Prop) × (List Value → z_H → Int32))) : z_PV (m_X11_way pu) := z_PVof 43 (show (List.range 43).all (z_pck cX11_way p_X11_way) = true by decide +kernel) (fun k hk => by show p_X11_way k = none; unfold p_X11_way; rw [z_bltF hk]; rfl)
set_option maxRecDepth 100000 in
theorem vP_X11_add (pu : Nat → Option ((List Value → z_H → Prop) × (List Value → z_H → Int32))) : z_PV (m_X11_add pu) := z_PVof 76 (show (List.range 76).all (z_pck cX11_add p_X11_add) = true by decide +kernel) (fun k hk => by show p_X11_add k = none; unfold p_X11_add; rw [z_bltF hk]; rfl)
set_option maxRecDepth 100000 in
theorem vP_X11_drop (pu : Nat → Option ((List Value → z_H → Prop) × (List Value → z_H → Int32))) : z_PV (m_X11_drop pu) := z_PVof 110 (show (List.range 110).all (z_pck cX11_drop p_X11_drop) = true by decide +kernel) (fun k hk => by show p_X11_drop k = none; unfold p_X11_drop; rw [z_bltF hk]; rfl)
set_option maxRecDepth 100000 in
theorem vP_X11_swap (pu : Nat → Option ((List Value → z_H → Prop) × (List Value → z_H → Int32))) : z_PV (m_X11_swap pu) := z_PVof 43 (show (List.range 43).all (z_pck cX11_swap p_X11_swap) = true by decide +kernel) (fun k hk => by show p_X11_swap k = none; unfold p_X11_swap; rw [z_bltF hk]; rfl)
set_option maxRecDepth 100000 in
theorem vP_X11_turn (pu : Nat → Option ((List Value → z_H → Prop) × (List Value → z_H → Int32))) : z_PV (m_X11_turn pu) := z_PVof 45 (show (List.range 45).all (z_pck cX11_turn p_X11_turn) = true by decide +kernel) (fun k hk => by show p_X11_turn k = none; unfold p_X11_turn; rw [z_bltF hk]; rfl)
set_option maxRecDepth 100000 in
theorem vP_X11_grow (pu : Nat → Option ((List Value → z_H → Prop) × (List Value → z_H → Int32))) : z_PV (m_X11_grow pu) := z_PVof 75 (show (List.range 75).all (z_pck cX11_grow p_X11_grow) = true by decide +kernel) (fun k hk => by show p_X11_grow k = none; unfold p_X11_grow; rw [z_bltF hk]; rfl)
set_option maxRecDepth 100000 in
theorem vP_X11_place (pu : Nat → Option ((List Value → z_H → Prop) × (List Value → z_H → Int32))) : z_PV (m_X11_place pu) := z_PVof 45 (show (List.range 45).all (z_pck cX11_place p_X11_place) = true by decide +kernel) (fun k hk => by show p_X11_place k = none; unfold p_X11_place; rw [z_bltF hk]; rfl)
set_option maxRecDepth 100000 in
theorem vP_X11_put (pu : Nat → Option ((List Value → z_H → Prop) × (List Value → z_H → Int32))) : z_PV (m_X11_put pu) := z_PVof 52 (show (List.range 52).all (z_pck cX11_put p_X11_put) = true by decide +kernel) (fun k hk => by show p_X11_put k = none; unfold p_X11_put; rw [z_bltF hk]; rfl)
set_option maxRecDepth 100000 in
theorem vP_X11_take (pu : Nat → Option ((List Value → z_H → Prop) × (List Value → z_H → Int32))) : z_PV (m_X11_take pu) := z_PVof 44 (show (List.range 44).all (z_pck cX11_take p_X11_take) = true by decide +kernel) (fun k hk => by show p_X11_take k = none; unfold p_X11_take; rw [z_bltF hk]; rfl)
set_option maxRecDepth 100000 in
theorem vP_X11_undo (pu : Nat → Option ((List Value → z_H → Prop) × (List Value → z_H → Int32))) : z_PV (m_X11_undo pu) := z_PVof 86 (show (List.range 86).all (z_pck cX11_undo p_X11_undo) = true by decide +kernel) (fun k hk => by show p_X11_undo k = none; unfold p_X11_undo; rw [z_bltF hk]; rfl)
set_option maxRecDepth 100000 in
theorem vP_X11_list (pu : Nat → Option ((List Value → z_H → Prop) × (List Value → z_H → Int32))) : z_PV (m_X11_list pu) := z_PVof 107 (show (List.range 107).all (z_pck cX11_list p_X11_list) = true by decide +kernel) (fun k hk => by show p_X11_list k = none; unfold p_X11_list; rw [z_bltF hk]; rfl)
set_option maxRecDepth 100000 in
theorem vP_X11_square (pu : Nat → Option ((List Value → z_H → Prop) × (List Value → z_H → Int32))) : z_PV (m_X11_square pu) := z_PVof 43 (show (List.range 43).all (z_pck cX11_square p_X11_square) = true by decide +kernel) (fun k hk => by show p_X11_square k = none; unfold p_X11_square; rw [z_bltF hk]; rfl)
set_option maxRecDepth 100000 in
theorem vP_X11_plane (pu : Nat → Option ((List Value → z_H → Prop) × (List Value → z_H → Int32))) : z_PV (m_X11_plane pu) := z_PVof 48 (show (List.range 48).all (z_pck cX11_plane p_X11_plane) = true by decide +kernel) (fun k hk => by show p_X11_plane k = none; unfold p_X11_plane; rw [z_bltF hk]; rfl)
set_option maxRecDepth 100000 in
theorem vP_X11_set (pu : Nat → Option ((List Value → z_H → Prop) × (List Value → z_H → Int32))) : z_PV (m_X11_set pu) := z_PVof 138 (show (List.range 138).all (z_pck cX11_set p_X11_set) = true by decide +kernel) (fun k hk => by show p_X11_set k = none; unfold p_X11_set; rw [z_bltF hk]; rfl)
set_option maxRecDepth 100000 in
theorem vP_X11_far (pu : Nat → Option ((List Value → z_H → Prop) × (List Value → z_H → Int32))) : z_PV (m_X11_far pu) := z_PVof 28 (show (List.range 28).all (z_pck cX11_far p_X11_far) = true by decide +kernel) (fun k hk => by show p_X11_far k = none; unfold p_X11_far; rw [z_bltF hk]; rfl)
set_option maxRecDepth 100000 in
theorem vP_X11_game (pu : Nat → Option ((List Value → z_H → Prop) × (List Value → z_H → Int32))) : z_PV (m_X11_game pu) := z_PVof 34 (show (List.range 34).all (z_pck cX11_game p_X11_game) = true by decide +kernel) (fun k hk => by show p_X11_game k = none; unfold p_X11_game; rw [z_bltF hk]; rfl)
set_option maxRecDepth 100000 in
theorem vP_X11_years (pu : Nat → Option ((List Value → z_H → Prop) × (List Value → z_H → Int32))) : z_PV (m_X11_years pu) := z_PVof 114 (show (List.range 114).all (z_pck cX11_years p_X11_years) = true by decide +kernel) (fun k hk => by show p_X11_years k = none; unfold p_X11_years; rw [z_bltF hk]; rfl)
set_option maxRecDepth 100000 in
theorem vP_X11_image (pu : Nat → Option ((List Value → z_H → Prop) × (List Value → z_H → Int32))) : z_PV (m_X11_image pu) := z_PVof 36 (show (List.range 36).all (z_pck cX11_image p_X11_image) = true by decide +kernel) (fun k hk => by show p_X11_image k = none; unfold p_X11_image; rw [z_bltF hk]; rfl)
set_option maxRecDepth 100000 in
theorem vP_X11_restore (pu : Nat → Option ((List Value → z_H → Prop) × (List Value → z_H → Int32))) : z_PV (m_X11_restore pu) := z_PVof 94 (show (List.range 94).all (z_pck cX11_restore p_X11_restore) = true by decide +kernel) (fun k hk => by show p_X11_restore k = none; unfold p_X11_restore; rw [z_bltF hk]; rfl)
set_option maxRecDepth 100000 in
theorem vP_X11_spool (pu : Nat → Option ((List Value → z_H → Prop) × (List Value → z_H → Int32))) : z_PV (m_X11_spool pu) := z_PVof 40 (show (List.range 40).all (z_pck cX11_spool p_X11_spool) = true by decide +kernel) (fun k hk => by show p_X11_spool k = none; unfold p_X11_spool; rw [z_bltF hk]; rfl)
set_option maxRecDepth 100000 in
theorem vP_X11_isPoint (pu : Nat → Option ((List Value → z_H → Prop) × (List Value → z_H → Int32))) : z_PV (m_X11_isPoint pu) := z_PVof 24 (show (List.range 24).all (z_pck cX11_isPoint p_X11_isPoint) = true by decide +kernel) (fun k hk => by show p_X11_isPoint k = none; unfold p_X11_isPoint; rw [z_bltF hk]; rfl)
set_option maxRecDepth 100000 in
theorem vP_X11_isPlace (pu : Nat → Option ((List Value → z_H → Prop) × (List Value → z_H → Int32))) : z_PV (m_X11_isPlace pu) := z_PVof 18 (show (List.range 18).all (z_pck cX11_isPlace p_X11_isPlace) = true by decide +kernel) (fun k hk => by show p_X11_isPlace k = none; unfold p_X11_isPlace; rw [z_bltF hk]; rfl)
set_option maxRecDepth 100000 in
theorem vP_X11_needPoint (pu : Nat → Option ((List Value → z_H → Prop) × (List Value → z_H → Int32))) : z_PV (m_X11_needPoint pu) := z_PVof 17 (show (List.range 17).all (z_pck cX11_needPoint p_X11_needPoint) = true by decide +kernel) (fun k hk => by show p_X11_needPoint k = none; unfold p_X11_needPoint; rw [z_bltF hk]; rfl)
set_option maxRecDepth 100000 in
theorem vP_X11_needLine (pu : Nat → Option ((List Value → z_H → Prop) × (List Value → z_H → Int32))) : z_PV (m_X11_needLine pu) := z_PVof 27 (show (List.range 27).all (z_pck cX11_needLine p_X11_needLine) = true by decide +kernel) (fun k hk => by show p_X11_needLine k = none; unfold p_X11_needLine; rw [z_bltF hk]; rfl)
set_option maxRecDepth 100000 in
theorem vP_X11_needUnlike (pu : Nat → Option ((List Value → z_H → Prop) × (List Value → z_H → Int32))) : z_PV (m_X11_needUnlike pu) := z_PVof 14 (show (List.range 14).all (z_pck cX11_needUnlike p_X11_needUnlike) = true by decide +kernel) (fun k hk => by show p_X11_needUnlike k = none; unfold p_X11_needUnlike; rw [z_bltF hk]; rfl)
set_option maxRecDepth 100000 in
theorem vP_X11_needShelved (pu : Nat → Option ((List Value → z_H → Prop) × (List Value → z_H → Int32))) : z_PV (m_X11_needShelved pu) := z_PVof 36 (show (List.range 36).all (z_pck cX11_needShelved p_X11_needShelved) = true by decide +kernel) (fun k hk => by show p_X11_needShelved k = none; unfold p_X11_needShelved; rw [z_bltF hk]; rfl)
set_option maxRecDepth 100000 in
theorem vP_X11_refuse (pu : Nat → Option ((List Value → z_H → Prop) × (List Value → z_H → Int32))) : z_PV (m_X11_refuse pu) := z_PVof 12 (show (List.range 12).all (z_pck cX11_refuse p_X11_refuse) = true by decide +kernel) (fun k hk => by show p_X11_refuse k = none; unfold p_X11_refuse; rw [z_bltF hk]; rfl)
set_option maxRecDepth 100000 in
theorem vP_X11_change (pu : Nat → Option ((List Value → z_H → Prop) × (List Value → z_H → Int32))) : z_PV (m_X11_change pu) := z_PVof 15 (show (List.range 15).all (z_pck cX11_change p_X11_change) = true by decide +kernel) (fun k hk => by show p_X11_change k = none; unfold p_X11_change; rw [z_bltF hk]; rfl)
set_option maxRecDepth 100000 in
theorem vP_X11_remember (pu : Nat → Option ((List Value → z_H → Prop) × (List Value → z_H → Int32))) : z_PV (m_X11_remember pu) := z_PVof 33 (show (List.range 33).all (z_pck cX11_remember p_X11_remember) = true by decide +kernel) (fun k hk => by show p_X11_remember k = none; unfold p_X11_remember; rw [z_bltF hk]; rfl)
