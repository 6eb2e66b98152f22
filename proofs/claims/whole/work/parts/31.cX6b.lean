def wp_X6_firstWhole (wid : Int32) (hei : Int32) (zz : Nat → Int32) (stk : Nat → Int32) (x1 : Int32) (post : Int32 → Prop) : Prop :=
  ∀ (P2 : Int32 → Prop), (∀ (v2_1 : Int32), (wp_X6_layers wid hei (fun r_2 => ((r_2 ≤ v2_1) → post (-6 : Int32)) ∧ ((¬ r_2 ≤ v2_1) → vp_in (x1 + v2_1) 64 ∧ (vp_in ((7 : Int32) + ((stk ((x1 + v2_1)).toNatClampNeg) / (2 : Int32))) 207 ∧ (((¬ (zz (((7 : Int32) + ((stk ((x1 + v2_1)).toNatClampNeg) / (2 : Int32)))).toNatClampNeg) = 0) → P2 (v2_1 + (1 : Int32))) ∧ (((zz (((7 : Int32) + ((stk ((x1 + v2_1)).toNatClampNeg) / (2 : Int32)))).toNatClampNeg) = 0) → vp_in (x1 + v2_1) 64 ∧ (post (stk ((x1 + v2_1)).toNatClampNeg)))))))) → P2 v2_1) → P2 (0 : Int32)
def wp_X6_whyNotInk (wid : Int32) (hei : Int32) (zz : Nat → Int32) (stk : Nat → Int32) (laid : Nat → Int32) (x1 : Int32) (x2 : Int32) (x3 : Int32) (post : Int32 → Int32 → Int32 → (Nat → Int32) → (Nat → Int32) → Prop) : Prop :=
  wp_X6_top wid hei zz stk laid x1 x2 (fun r_1 wid__2 hei__3 stk__4 laid__5 => ((¬ r_1 = (-6 : Int32)) → wp_X6_in x3 (1 : Int32) (5 : Int32) (fun r_6 => ((r_6 = 0) → post (-2 : Int32) wid__2 hei__3 stk__4 laid__5) ∧ ((¬ r_6 = 0) → post (0 : Int32) wid__2 hei__3 stk__4 laid__5))) ∧ ((r_1 = (-6 : Int32)) → post (-1 : Int32) wid__2 hei__3 stk__4 laid__5))
def wp_X6_inks (wid : Int32) (hei : Int32) (zz : Nat → Int32) (stk : Nat → Int32) (laid : Nat → Int32) (x1 : Int32) (x2 : Int32) (x3 : Int32) (post : Int32 → Int32 → Int32 → (Nat → Int32) → (Nat → Int32) → (Nat → Int32) → Prop) : Prop :=
  wp_X6_top wid hei zz stk laid x1 x2 (fun r_1 wid__2 hei__3 stk__4 laid__5 => wp_X6_firstWhole wid__2 hei__3 zz stk__4 r_1 (fun r_6 => ((¬ r_6 = (-6 : Int32)) → vp_in ((71 : Int32) + r_6) 207 ∧ (post (r_6 / (2 : Int32)) wid__2 hei__3 (upd zz (((71 : Int32) + r_6)).toNatClampNeg x3) stk__4 laid__5)) ∧ ((r_6 = (-6 : Int32)) → post (-6 : Int32) wid__2 hei__3 zz stk__4 laid__5)))
def wp_X6_ink (pastMany : Int32) (wid : Int32) (hei : Int32) (zz : Nat → Int32) (past : Nat → Int32) (stk : Nat → Int32) (laid : Nat → Int32) (x1 : Int32) (x2 : Int32) (x3 : Int32) (post : Int32 → Int32 → Int32 → Int32 → (Nat → Int32) → (Nat → Int32) → (Nat → Int32) → (Nat → Int32) → Prop) : Prop :=
  wp_X6_whyNotInk wid hei zz stk laid x1 x2 x3 (fun r_1 wid__2 hei__3 stk__4 laid__5 => ((0 ≤ r_1) → wp_X6_record pastMany zz past (fun pastMany__6 past__7 => wp_X6_inks wid__2 hei__3 zz stk__4 laid__5 x1 x2 x3 (fun r_8 wid__9 hei__10 zz__11 stk__12 laid__13 => post r_8 pastMany__6 wid__9 hei__10 zz__11 past__7 stk__12 laid__13))) ∧ ((¬ 0 ≤ r_1) → post r_1 pastMany wid__2 hei__3 zz past stk__4 laid__5))
def wp_X6_mend (pastMany : Int32) (wid : Int32) (hei : Int32) (zz : Nat → Int32) (past : Nat → Int32) (stk : Nat → Int32) (laid : Nat → Int32) (x1 : Int32) (x2 : Int32) (post : Int32 → Int32 → Int32 → Int32 → (Nat → Int32) → (Nat → Int32) → (Nat → Int32) → (Nat → Int32) → Prop) : Prop :=
  wp_X6_top wid hei zz stk laid x1 x2 (fun r_1 wid__2 hei__3 stk__4 laid__5 => ((¬ r_1 = (-6 : Int32)) → vp_in r_1 64 ∧ (∀ w4_6 : Int32, w4_6 = ((stk__4 (r_1).toNatClampNeg) / (2 : Int32)) → vp_in ((7 : Int32) + w4_6) 207 ∧ (((¬ (zz (((7 : Int32) + w4_6)).toNatClampNeg) = 0) → wp_X6_record pastMany zz past (fun pastMany__7 past__8 => vp_in ((7 : Int32) + w4_6) 207 ∧ (vp_in ((71 : Int32) + ((2 : Int32) * w4_6)) 207 ∧ (vp_in (((71 : Int32) + ((2 : Int32) * w4_6)) + (1 : Int32)) 207 ∧ (post w4_6 pastMany__7 wid__2 hei__3 (upd (upd (upd zz (((7 : Int32) + w4_6)).toNatClampNeg (0 : Int32)) (((71 : Int32) + ((2 : Int32) * w4_6))).toNatClampNeg (0 : Int32)) ((((71 : Int32) + ((2 : Int32) * w4_6)) + (1 : Int32))).toNatClampNeg (0 : Int32)) past__8 stk__4 laid__5))))) ∧ (((zz (((7 : Int32) + w4_6)).toNatClampNeg) = 0) → post (-3 : Int32) pastMany wid__2 hei__3 zz past stk__4 laid__5)))) ∧ ((r_1 = (-6 : Int32)) → post (-1 : Int32) pastMany wid__2 hei__3 zz past stk__4 laid__5))
def wp_X6_layer (wid : Int32) (hei : Int32) (zz : Nat → Int32) (stk : Nat → Int32) (laid : Nat → Int32) (x1 : Int32) (x2 : Int32) (x3 : Int32) (x4 : Int32) (post : Int32 → Int32 → Int32 → (Nat → Int32) → (Nat → Int32) → Prop) : Prop :=
  wp_X6_top wid hei zz stk laid x1 x2 (fun r_1 wid__2 hei__3 stk__4 laid__5 => ∀ (P29 : Prop), ((post (-1 : Int32) wid__2 hei__3 stk__4 laid__5) → P29 ) → ((r_1 = (-6 : Int32)) → P29) ∧ ((¬ r_1 = (-6 : Int32)) → wp_X6_layers wid__2 hei__3 (fun r_6 => wp_X6_in x3 (0 : Int32) (r_6 - (1 : Int32)) (fun r_7 => ((¬ r_7 = 0) → vp_in (r_1 + x3) 64 ∧ (∀ w6_8 : Int32, w6_8 = (stk__4 ((r_1 + x3)).toNatClampNeg) → ((x4.toInt < (0) ∨ (3) < x4.toInt) → post (-2 : Int32) wid__2 hei__3 stk__4 laid__5) ∧ (x4 = (0 : Int32) → post (w6_8 / (2 : Int32)) wid__2 hei__3 stk__4 laid__5) ∧ (x4 = (1 : Int32) → post (w6_8 - w6_8 / (2 : Int32) * (2 : Int32)) wid__2 hei__3 stk__4 laid__5) ∧ (x4 = (2 : Int32) → vp_in ((7 : Int32) + (w6_8 / (2 : Int32))) 207 ∧ (post (zz (((7 : Int32) + (w6_8 / (2 : Int32)))).toNatClampNeg) wid__2 hei__3 stk__4 laid__5)) ∧ (x4 = (3 : Int32) → vp_in ((71 : Int32) + w6_8) 207 ∧ (post (zz (((71 : Int32) + w6_8)).toNatClampNeg) wid__2 hei__3 stk__4 laid__5)))) ∧ ((r_7 = 0) → P29)))))
def wp_X6_seen (wid : Int32) (hei : Int32) (zz : Nat → Int32) (stk : Nat → Int32) (laid : Nat → Int32) (x1 : Int32) (x2 : Int32) (post : Int32 → Int32 → Int32 → (Nat → Int32) → (Nat → Int32) → Prop) : Prop :=
  wp_X6_top wid hei zz stk laid x1 x2 (fun r_1 wid__2 hei__3 stk__4 laid__5 => ((¬ r_1 = (-6 : Int32)) → wp_X6_firstWhole wid__2 hei__3 zz stk__4 r_1 (fun r_6 => ((¬ r_6 = (-6 : Int32)) → vp_in ((71 : Int32) + r_6) 207 ∧ (post (((10 : Int32) * (r_6 / (2 : Int32))) + (zz (((71 : Int32) + r_6)).toNatClampNeg)) wid__2 hei__3 stk__4 laid__5)) ∧ ((r_6 = (-6 : Int32)) → post (-6 : Int32) wid__2 hei__3 stk__4 laid__5))) ∧ ((r_1 = (-6 : Int32)) → post (-1 : Int32) wid__2 hei__3 stk__4 laid__5))
def wp_X6_isCell (x0 : Int32) (post : Int32 → Prop) : Prop :=
  wp_X6_in x0 (0 : Int32) (63 : Int32) (fun r_1 => (r_1 = 0 ∨ r_1 = 1) ∧ (post r_1))
def wp_X6_where (wid : Int32) (hei : Int32) (zz : Nat → Int32) (stk : Nat → Int32) (laid : Nat → Int32) (x1 : Int32) (x2 : Int32) (post : Int32 → Int32 → Int32 → (Nat → Int32) → (Nat → Int32) → Prop) : Prop :=
  wp_X6_isCell x1 (fun r_1 => ((¬ r_1 = 0) → wp_X6_layNow wid hei zz stk laid (fun wid__2 hei__3 stk__4 laid__5 => ∀ (P15 : Int32 → Prop), (∀ (v3_6 : Int32), (vp_in v3_6 64 ∧ (((((stk__4 (v3_6).toNatClampNeg) / (2 : Int32)) = x1) → wp_X6_layers wid__2 hei__3 (fun r_7 => ¬ r_7 = 0 ∧ (∀ w4_8 : Int32, w4_8 = (v3_6 / r_7) → ((x2.toInt < (0) ∨ (3) < x2.toInt) → post (-2 : Int32) wid__2 hei__3 stk__4 laid__5) ∧ (x2 = (0 : Int32) → ¬ wid__2 = 0 ∧ (post (w4_8 - w4_8 / wid__2 * wid__2) wid__2 hei__3 stk__4 laid__5)) ∧ (x2 = (1 : Int32) → ¬ wid__2 = 0 ∧ (post (w4_8 / wid__2) wid__2 hei__3 stk__4 laid__5)) ∧ (x2 = (2 : Int32) → wp_X6_layers wid__2 hei__3 (fun r_9 => ¬ r_9 = 0 ∧ (post (v3_6 - v3_6 / r_9 * r_9) wid__2 hei__3 stk__4 laid__5))) ∧ (x2 = (3 : Int32) → vp_in v3_6 64 ∧ (post ((stk__4 (v3_6).toNatClampNeg) - (stk__4 (v3_6).toNatClampNeg) / (2 : Int32) * (2 : Int32)) wid__2 hei__3 stk__4 laid__5))))) ∧ ((¬ ((stk__4 (v3_6).toNatClampNeg) / (2 : Int32)) = x1) → P15 (v3_6 + (1 : Int32))))) → P15 v3_6) → P15 (0 : Int32))) ∧ ((r_1 = 0) → post (-1 : Int32) wid hei stk laid))
def wp_X6_colour (zz : Nat → Int32) (x1 : Int32) (x2 : Int32) (post : Int32 → Prop) : Prop :=
  wp_X6_isCell x1 (fun r_1 => ((¬ r_1 = 0) → wp_X6_in x2 (0 : Int32) (1 : Int32) (fun r_2 => ((r_2 = 0) → post (-2 : Int32)) ∧ ((¬ r_2 = 0) → vp_in (((71 : Int32) + ((2 : Int32) * x1)) + x2) 207 ∧ (post (zz ((((71 : Int32) + ((2 : Int32) * x1)) + x2)).toNatClampNeg))))) ∧ ((r_1 = 0) → post (-1 : Int32)))
def wp_X6_hole (zz : Nat → Int32) (x1 : Int32) (x2 : Int32) (post : Int32 → Prop) : Prop :=
  vp_in (((7 : Int32) + ((8 : Int32) * x2)) + x1) 207 ∧ (post (zz ((((7 : Int32) + ((8 : Int32) * x2)) + x1)).toNatClampNeg))
def wp_X6_holes (zz : Nat → Int32) (x1 : Int32) (post : Int32 → Prop) : Prop :=
  wp_X6_in x1 (0 : Int32) (7 : Int32) (fun r_1 => ((¬ r_1 = 0) → ∀ (P16 : Int32 → Int32 → Prop), (∀ (v2_2 : Int32) (v3_3 : Int32), ((((8 : Int32) ≤ v3_3) → post v2_2) ∧ ((¬ (8 : Int32) ≤ v3_3) → wp_X6_hole zz v3_3 x1 (fun r_4 => ∀ w2_5 : Int32, w2_5 = (v2_2 ||| (r_4 <<< (v3_3 &&& (31 : Int32)))) → P16 w2_5 (v3_3 + (1 : Int32))))) → P16 v2_2 v3_3) → P16 (0 : Int32) (0 : Int32)) ∧ ((r_1 = 0) → post (-1 : Int32)))
def wp_X6_wanted (zz : Nat → Int32) (x1 : Int32) (post : Int32 → Prop) : Prop :=
  vp_in ((199 : Int32) + (x1 / (8 : Int32))) 207 ∧ (post (((zz (((199 : Int32) + (x1 / (8 : Int32)))).toNatClampNeg) >>> ((x1 - x1 / (8 : Int32) * (8 : Int32)) &&& (31 : Int32))) &&& (1 : Int32)))
def wp_X6_joins (zz : Nat → Int32) (pcs : Nat → Int32) (x1 : Int32) (x2 : Int32) (post : Int32 → (Nat → Int32) → Prop) : Prop :=
  vp_in x1 64 ∧ (vp_in x2 64 ∧ (∀ (P30 : Int32 → Prop), (∀ (t_1 : Int32), (vp_in ((7 : Int32) + x1) 207 ∧ (∀ (P75 : Int32 → Prop), (∀ (t_2 : Int32), (∀ (P96 : (Nat → Int32) → Prop), (∀ (pcs__3 : Nat → Int32), ((t_2 = 0 ∨ t_2 = 1) ∧ (post t_2 pcs__3)) → P96 pcs__3) → ((t_2 = 0) → P96 pcs) ∧ ((¬ t_2 = 0) → vp_in x1 64 ∧ (vp_in x2 64 ∧ (P96 (upd (upd pcs (x1).toNatClampNeg t_1) (x2).toNatClampNeg t_1))))) → P75 t_2) → ∀ (P74 : Prop), ((P75 (0 : Int32)) → P74 ) → ((¬ (zz (((7 : Int32) + x1)).toNatClampNeg) = 0) → P74) ∧ (((zz (((7 : Int32) + x1)).toNatClampNeg) = 0) → vp_in ((7 : Int32) + x2) 207 ∧ (((¬ (zz (((7 : Int32) + x2)).toNatClampNeg) = 0) → P74) ∧ (((zz (((7 : Int32) + x2)).toNatClampNeg) = 0) → vp_in x1 64 ∧ (vp_in x2 64 ∧ ((((pcs (x1).toNatClampNeg) = (pcs (x2).toNatClampNeg)) → P74) ∧ ((¬ (pcs (x1).toNatClampNeg) = (pcs (x2).toNatClampNeg)) → P75 (1 : Int32))))))))) → P30 t_1) → (((pcs (x2).toNatClampNeg) ≤ (pcs (x1).toNatClampNeg)) → vp_in x2 64 ∧ (P30 (pcs (x2).toNatClampNeg))) ∧ ((¬ (pcs (x2).toNatClampNeg) ≤ (pcs (x1).toNatClampNeg)) → vp_in x1 64 ∧ (P30 (pcs (x1).toNatClampNeg)))))
def wp_X6_layPieces (zz : Nat → Int32) (pcs : Nat → Int32) (post : (Nat → Int32) → Prop) : Prop :=
  ∀ (P2 : Int32 → (Nat → Int32) → Prop), (∀ (v1_1 : Int32) (pcs__2 : Nat → Int32), ((((64 : Int32) ≤ v1_1) → ∀ (P23 : Int32 → (Nat → Int32) → Prop), (∀ (v1_3 : Int32) (pcs__4 : Nat → Int32), (((v1_3 = 0) → post pcs__4) ∧ ((¬ v1_3 = 0) → ∀ (P31 : Int32 → Int32 → (Nat → Int32) → Prop), (∀ (v1_5 : Int32) (v2_6 : Int32) (pcs__7 : Nat → Int32), ((((64 : Int32) ≤ v2_6) → P23 v1_5 pcs__7) ∧ ((¬ (64 : Int32) ≤ v2_6) → ∀ (P66 : Int32 → (Nat → Int32) → Prop), (∀ (t_8 : Int32) (pcs__9 : Nat → Int32), (∀ (P94 : Int32 → (Nat → Int32) → Prop), (∀ (t_10 : Int32) (pcs__11 : Nat → Int32), (P31 t_10 (v2_6 + (1 : Int32)) pcs__11) → P94 t_10 pcs__11) → ∀ (P89 : (Nat → Int32) → Prop), (∀ (pcs__12 : Nat → Int32), (P94 (1 : Int32) pcs__12) → P89 pcs__12) → ∀ (P85 : (Nat → Int32) → Prop), (∀ (pcs__13 : Nat → Int32), (((t_8 = 0) → P94 (0 : Int32) pcs__13) ∧ ((¬ t_8 = 0) → P89 pcs__13)) → P85 pcs__13) → (((56 : Int32) ≤ v2_6) → P85 pcs__9) ∧ ((¬ (56 : Int32) ≤ v2_6) → wp_X6_joins zz pcs__9 v2_6 (v2_6 + (8 : Int32)) (fun r_14 pcs__15 => ((¬ r_14 = 0) → P89 pcs__15) ∧ ((r_14 = 0) → P85 pcs__15)))) → P66 t_8 pcs__9) → ∀ (P61 : (Nat → Int32) → Prop), (∀ (pcs__16 : Nat → Int32), (P66 (1 : Int32) pcs__16) → P61 pcs__16) → ∀ (P57 : (Nat → Int32) → Prop), (∀ (pcs__17 : Nat → Int32), (((v1_5 = 0) → P66 (0 : Int32) pcs__17) ∧ ((¬ v1_5 = 0) → P61 pcs__17)) → P57 pcs__17) → (((7 : Int32) ≤ (v2_6 - v2_6 / (8 : Int32) * (8 : Int32))) → P57 pcs__7) ∧ ((¬ (7 : Int32) ≤ (v2_6 - v2_6 / (8 : Int32) * (8 : Int32))) → wp_X6_joins zz pcs__7 v2_6 (v2_6 + (1 : Int32)) (fun r_18 pcs__19 => ((¬ r_18 = 0) → P61 pcs__19) ∧ ((r_18 = 0) → P57 pcs__19))))) → P31 v1_5 v2_6 pcs__7) → P31 (0 : Int32) (0 : Int32) pcs__4)) → P23 v1_3 pcs__4) → P23 (1 : Int32) pcs__2) ∧ ((¬ (64 : Int32) ≤ v1_1) → vp_in v1_1 64 ∧ (P2 (v1_1 + (1 : Int32)) (upd pcs__2 (v1_1).toNatClampNeg v1_1)))) → P2 v1_1 pcs__2) → P2 (0 : Int32) pcs
def wp_X6_pieceSize (zz : Nat → Int32) (pcs : Nat → Int32) (x1 : Int32) (post : Int32 → Prop) : Prop :=
  ∀ (P4 : Int32 → Int32 → Prop), (∀ (v2_1 : Int32) (v3_2 : Int32), ((((64 : Int32) ≤ v3_2) → post v2_1) ∧ ((¬ (64 : Int32) ≤ v3_2) → vp_in ((7 : Int32) + v3_2) 207 ∧ (∀ (P38 : Int32 → Prop), (∀ (t_3 : Int32), (∀ w2_4 : Int32, w2_4 = (v2_1 + t_3) → P4 w2_4 (v3_2 + (1 : Int32))) → P38 t_3) → ∀ (P37 : Prop), ((P38 (0 : Int32)) → P37 ) → ((¬ (zz (((7 : Int32) + v3_2)).toNatClampNeg) = 0) → P37) ∧ (((zz (((7 : Int32) + v3_2)).toNatClampNeg) = 0) → vp_in v3_2 64 ∧ (((¬ (pcs (v3_2).toNatClampNeg) = x1) → P37) ∧ (((pcs (v3_2).toNatClampNeg) = x1) → P38 (1 : Int32))))))) → P4 v2_1 v3_2) → P4 (0 : Int32) (0 : Int32)
def wp_X6_pieceMany (zz : Nat → Int32) (pcs : Nat → Int32) (post : Int32 → (Nat → Int32) → Prop) : Prop :=
  wp_X6_layPieces zz pcs (fun pcs__1 => ∀ (P8 : Int32 → Int32 → Prop), (∀ (v1_2 : Int32) (v2_3 : Int32), ((((64 : Int32) ≤ v2_3) → post v1_2 pcs__1) ∧ ((¬ (64 : Int32) ≤ v2_3) → wp_X6_pieceSize zz pcs__1 v2_3 (fun r_4 => ∀ (P28 : Int32 → Prop), (∀ (t_5 : Int32), (∀ w1_6 : Int32, w1_6 = (v1_2 + t_5) → P8 w1_6 (v2_3 + (1 : Int32))) → P28 t_5) → ((r_4 ≤ 0) → P28 (0 : Int32)) ∧ ((¬ r_4 ≤ 0) → P28 (1 : Int32))))) → P8 v1_2 v2_3) → P8 (0 : Int32) (0 : Int32))
def wp_X6_largest (zz : Nat → Int32) (pcs : Nat → Int32) (post : Int32 → (Nat → Int32) → Prop) : Prop :=
  wp_X6_layPieces zz pcs (fun pcs__1 => ∀ (P8 : Int32 → Int32 → Prop), (∀ (v1_2 : Int32) (v2_3 : Int32), ((((64 : Int32) ≤ v2_3) → post v1_2 pcs__1) ∧ ((¬ (64 : Int32) ≤ v2_3) → wp_X6_pieceSize zz pcs__1 v2_3 (fun r_4 => ∀ (P30 : Int32 → Prop), (∀ (t_5 : Int32), (P8 t_5 (v2_3 + (1 : Int32))) → P30 t_5) → ((r_4 ≤ v1_2) → P30 v1_2) ∧ ((¬ r_4 ≤ v1_2) → P30 r_4)))) → P8 v1_2 v2_3) → P8 (0 : Int32) (0 : Int32))
def wp_X6_count (zz : Nat → Int32) (pcs : Nat → Int32) (x1 : Int32) (post : Int32 → (Nat → Int32) → Prop) : Prop :=
  ((x1.toInt < (0) ∨ (5) < x1.toInt) → post (-2 : Int32) pcs) ∧ (x1 = (0 : Int32) → ∀ (P42 : Int32 → Int32 → Prop), (∀ (v2_1 : Int32) (v3_2 : Int32), ((((64 : Int32) ≤ v3_2) → post v2_1 pcs) ∧ ((¬ (64 : Int32) ≤ v3_2) → vp_in ((7 : Int32) + v3_2) 207 ∧ (∀ w2_3 : Int32, w2_3 = (v2_1 + (zz (((7 : Int32) + v3_2)).toNatClampNeg)) → P42 w2_3 (v3_2 + (1 : Int32))))) → P42 v2_1 v3_2) → P42 (0 : Int32) (0 : Int32)) ∧ (x1 = (1 : Int32) → wp_X6_pieceMany zz pcs (fun r_4 pcs__5 => post r_4 pcs__5)) ∧ (x1 = (2 : Int32) → wp_X6_largest zz pcs (fun r_6 pcs__7 => post r_6 pcs__7)) ∧ (x1 = (3 : Int32) → ∀ (P80 : Int32 → Int32 → Prop), (∀ (v2_8 : Int32) (v3_9 : Int32), ((((128 : Int32) ≤ v3_9) → post v2_8 pcs) ∧ ((¬ (128 : Int32) ≤ v3_9) → vp_in ((71 : Int32) + v3_9) 207 ∧ (∀ (P105 : Int32 → Prop), (∀ (t_10 : Int32), (∀ w2_11 : Int32, w2_11 = (v2_8 + t_10) → P80 w2_11 (v3_9 + (1 : Int32))) → P105 t_10) → ((¬ (zz (((71 : Int32) + v3_9)).toNatClampNeg) = 0) → P105 (1 : Int32)) ∧ (((zz (((71 : Int32) + v3_9)).toNatClampNeg) = 0) → P105 (0 : Int32))))) → P80 v2_8 v3_9) → P80 (0 : Int32) (0 : Int32)) ∧ (x1 = (4 : Int32) → ∀ (P117 : Int32 → Int32 → Prop), (∀ (v2_12 : Int32) (v3_13 : Int32), ((((64 : Int32) ≤ v3_13) → post v2_12 pcs) ∧ ((¬ (64 : Int32) ≤ v3_13) → wp_X6_wanted zz v3_13 (fun r_14 => ∀ w2_15 : Int32, w2_15 = (v2_12 + r_14) → P117 w2_15 (v3_13 + (1 : Int32))))) → P117 v2_12 v3_13) → P117 (0 : Int32) (0 : Int32)) ∧ (x1 = (5 : Int32) → ∀ (P141 : Int32 → Int32 → Prop), (∀ (v2_16 : Int32) (v3_17 : Int32), ((((64 : Int32) ≤ v3_17) → post v2_16 pcs) ∧ ((¬ (64 : Int32) ≤ v3_17) → wp_X6_wanted zz v3_17 (fun r_18 => vp_in ((7 : Int32) + v3_17) 207 ∧ (∀ (P170 : Int32 → Prop), (∀ (t_19 : Int32), (∀ w2_20 : Int32, w2_20 = (v2_16 + t_19) → P141 w2_20 (v3_17 + (1 : Int32))) → P170 t_19) → ((¬ r_18 = (zz (((7 : Int32) + v3_17)).toNatClampNeg)) → P170 (1 : Int32)) ∧ ((r_18 = (zz (((7 : Int32) + v3_17)).toNatClampNeg)) → P170 (0 : Int32)))))) → P141 v2_16 v3_17) → P141 (0 : Int32) (0 : Int32))
set_option maxRecDepth 20000 in
theorem kwX6_firstWhole_7 : Cond.fieldLink RX6 7 "PunchedFoldsModel" "z" "[I" ∈ wsX6_firstWhole := by decide +kernel
set_option maxRecDepth 20000 in
theorem iwX6_firstWhole_X6 : ∀ w ∈ wsX60, w ∈ wsX6_firstWhole := by decide +kernel
set_option maxRecDepth 20000 in
theorem kwX6_firstWhole_23 : Cond.fieldLink RX6 23 "PunchedFoldsModel" "stacks" "[I" ∈ wsX6_firstWhole := by decide +kernel
set_option maxHeartbeats 4000000 in
set_option maxRecDepth 100000 in
theorem c_X6_firstWhole (l : Launch) (dC : Nat → ClassId) (dI : Nat → Nat → Nat) (cI cC cS : ClassId) (aM : Nat) (aZ : Nat) (aPast : Nat) (aKz : Nat) (aBuf : Nat) (aStk : Nat) (aLaid : Nat) (aPcs : Nat) (aTold : Nat) (sz : Nat) (pastMany : Int32) (isKept : Int32) (typed : Int32) (wid : Int32) (hei : Int32) (toldMany : Int32) (spot : Int32) (wrong : Int32) (zz : Nat → Int32) (stk : Nat → Int32) (x1 : Int32) {post : Int32 → Prop} (hq : wp_X6_firstWhole wid hei zz stk x1 post) : Met l yX6_firstWhole wsX6_firstWhole ({ frames := 1, cells := 0, slots := 0, locals := 20 } : Room) (gn_Pre (dC, dI) cI cC cS [.ref aM, .int x1] sz [(aM, .inr (5, [.ref aZ, .ref aPast, .int pastMany, .ref aKz, .int isKept, .ref aBuf, .int typed, .ref aStk, .ref aLaid, .int wid, .int hei, .ref aPcs, .ref aTold, .int toldMany, .int spot, .int wrong])), (aZ, .inl (cI, 207, .inl zz)), (aStk, .inl (cI, 64, .inl stk))]) (va_Qi (fun (r : Int32) (u : Unit) => post r) (fun (u : Unit) t => va_P (dC, dI) vwCl [(aM, .inr (5, [.ref aZ, .ref aPast, .int pastMany, .ref aKz, .int isKept, .ref aBuf, .int typed, .ref aStk, .ref aLaid, .int wid, .int hei, .ref aPcs, .ref aTold, .int toldMany, .int spot, .int wrong])), (aZ, .inl (cI, 207, .inl zz)), (aStk, .inl (cI, 64, .inl stk))] t.heap ∧ va_K (dC, dI) vwCl (gn_tys cI cC cS) t ∧ va_D (va_A [(aM, .inr (5, [.ref aZ, .ref aPast, .int pastMany, .ref aKz, .int isKept, .ref aBuf, .int typed, .ref aStk, .ref aLaid, .int wid, .int hei, .ref aPcs, .ref aTold, .int toldMany, .int spot, .int wrong])), (aZ, .inl (cI, 207, .inl zz)), (aStk, .inl (cI, 64, .inl stk))] sz) [(aM, .inr (5, [.ref aZ, .ref aPast, .int pastMany, .ref aKz, .int isKept, .ref aBuf, .int typed, .ref aStk, .ref aLaid, .int wid, .int hei, .ref aPcs, .ref aTold, .int toldMany, .int spot, .int wrong])), (aZ, .inl (cI, 207, .inl zz)), (aStk, .inl (cI, 64, .inl stk))]) (va_A [(aM, .inr (5, [.ref aZ, .ref aPast, .int pastMany, .ref aKz, .int isKept, .ref aBuf, .int typed, .ref aStk, .ref aLaid, .int wid, .int hei, .ref aPcs, .ref aTold, .int toldMany, .int spot, .int wrong])), (aZ, .inl (cI, 207, .inl zz)), (aStk, .inl (cI, 64, .inl stk))] sz)) 0 0 (va_A [(aM, .inr (5, [.ref aZ, .ref aPast, .int pastMany, .ref aKz, .int isKept, .ref aBuf, .int typed, .ref aStk, .ref aLaid, .int wid, .int hei, .ref aPcs, .ref aTold, .int toldMany, .int spot, .int wrong])), (aZ, .inl (cI, 207, .inl zz)), (aStk, .inl (cI, 64, .inl stk))] sz) := by
  unfold wp_X6_firstWhole at hq
  refine Met.ofW (cc := cX6_firstWhole) (maxL := 3) (ret := (some .int)) (by decide) rfl ?_
  intro p e s m args below meth c s₁ B hml hv
  obtain ⟨rfl, hsz, hP, hK, hN, hD0⟩ := hv
  have hx := B.exec
  have hb := B.bytes
  have hr := B.returns
  have hts := atoms_spec (ws := wsX6_firstWhole) B.pre
  have hown : s.vm.findClass RX6 = some m.cls := findClass_of_methodNamed B.named
  have hlocks := B.notSynchronized
  subst hsz
  have hD := hD0.self (sz := s.heap.size)
  generalize hAe : va_A [(aM, .inr (5, [.ref aZ, .ref aPast, .int pastMany, .ref aKz, .int isKept, .ref aBuf, .int typed, .ref aStk, .ref aLaid, .int wid, .int hei, .ref aPcs, .ref aTold, .int toldMany, .int spot, .int wrong])), (aZ, .inl (cI, 207, .inl zz)), (aStk, .inl (cI, 64, .inl stk))] s.heap.size = A at hD ⊢
  have hA : ∀ q : Nat, s.heap.size ≤ q → A q := fun q h => by rw [← hAe]; exact Or.inr h
  have hS : va_S A s.heap s.heap [] := va_S.rf
  have hl := lv_entry ([.ref aM, .int x1] : List Value) (n := 3) (Nat.le_of_ble_eq_true rfl)
  rw [lg_entry_eq]
  generalize (lg_sl ([.ref aM, .int x1] : List Value) ++ List.replicate (3 - (lg_sl ([.ref aM, .int x1] : List Value)).length) Slot.unset).toArray = ls at hl ⊢
  have hl : lv_has ls 3 [(0, .ref aM), (1, .int x1)] := hl
  refine gn_Q (hret := fun Q => ∀ (pc : Nat) (ls : Array Slot) (H : Heap) (locs : List Loc) (r : Int32) , decode cX6_firstWhole pc = .ok (.ireturn, 1) → va_P (dC, dI) vwCl [(aM, .inr (5, [.ref aZ, .ref aPast, .int pastMany, .ref aKz, .int isKept, .ref aBuf, .int typed, .ref aStk, .ref aLaid, .int wid, .int hei, .ref aPcs, .ref aTold, .int toldMany, .int spot, .int wrong])), (aZ, .inl (cI, 207, .inl zz)), (aStk, .inl (cI, 64, .inl stk))] H → va_D A [(aM, .inr (5, [.ref aZ, .ref aPast, .int pastMany, .ref aKz, .int isKept, .ref aBuf, .int typed, .ref aStk, .ref aLaid, .int wid, .int hei, .ref aPcs, .ref aTold, .int toldMany, .int spot, .int wrong])), (aZ, .inl (cI, 207, .inl zz)), (aStk, .inl (cI, 64, .inl stk))] → va_S A s.heap H locs → post r → W p l e ({ frames := 1, cells := 0, slots := 0, locals := 20 } : Room) s m ([.ref aM, .int x1] : List Value).toArray below meth c H locs 0 0 Q (F0 m pc ls [.int r])) (fun Q hret => ?_) ?_
  rotate_left
  · intro pc ls H locs r hdg hP hD hS hpost
    exact W.iret (v := r) hx hb hr (fun t ht hW => ⟨⟨r, (), rfl, hpost, by rw [ht]; exact hP, va_K.moved hW.alike hK, hD⟩, hS.F ht⟩) hS.2.2 hdg
  refine lv_iconst (v := 0) hx hb dX6_firstWhole_0 (by decide) ?_
  refine lv_istore_n (lv' := [(2, .int (0 : Int32)), (0, .ref aM), (1, .int x1)]) hx hb dX6_firstWhole_1 rfl hl (by decide) rfl (fun ls hl => ?_)
  have hq := hq (fun (v2_1 : Int32) => ∀ (H : Heap) (locs : List Loc) (ls : Array Slot), va_P (dC, dI) vwCl [(aM, .inr (5, [.ref aZ, .ref aPast, .int pastMany, .ref aKz, .int isKept, .ref aBuf, .int typed, .ref aStk, .ref aLaid, .int wid, .int hei, .ref aPcs, .ref aTold, .int toldMany, .int spot, .int wrong])), (aZ, .inl (cI, 207, .inl zz)), (aStk, .inl (cI, 64, .inl stk))] H → va_D A [(aM, .inr (5, [.ref aZ, .ref aPast, .int pastMany, .ref aKz, .int isKept, .ref aBuf, .int typed, .ref aStk, .ref aLaid, .int wid, .int hei, .ref aPcs, .ref aTold, .int toldMany, .int spot, .int wrong])), (aZ, .inl (cI, 207, .inl zz)), (aStk, .inl (cI, 64, .inl stk))] → va_S A s.heap H locs → lv_has ls 3 [(0, .ref aM), (1, .int x1), (2, .int v2_1)] → W p l e ({ frames := 1, cells := 0, slots := 0, locals := 20 } : Room) s m ([.ref aM, .int x1] : List Value).toArray below meth c H locs 0 0 Q (F0 m 2 ls [])) (by
    intro v2_1 hq H locs ls hP hD hS hl
    refine lv_iload_n hx hb dX6_firstWhole_2 rfl (lv_at hl 2 rfl) ?_
    refine lv_aload_n hx hb dX6_firstWhole_3 rfl (lv_at hl 0 rfl) ?_
    have hPc := hP.sub (ws' := [(aM, .inr (5, [.ref aZ, .ref aPast, .int pastMany, .ref aKz, .int isKept, .ref aBuf, .int typed, .ref aStk, .ref aLaid, .int wid, .int hei, .ref aPcs, .ref aTold, .int toldMany, .int spot, .int wrong]))]) [0] rfl
    have hDc := hD.sub (ws' := [(aM, .inr (5, [.ref aZ, .ref aPast, .int pastMany, .ref aKz, .int isKept, .ref aBuf, .int typed, .ref aStk, .ref aLaid, .int wid, .int hei, .ref aPcs, .ref aTold, .int toldMany, .int spot, .int wrong]))]) [0] (by decide) rfl
    have hFc := va_free (wc := [(aM, .inr (5, [.ref aZ, .ref aPast, .int pastMany, .ref aKz, .int isKept, .ref aBuf, .int typed, .ref aStk, .ref aLaid, .int wid, .int hei, .ref aPcs, .ref aTold, .int toldMany, .int spot, .int wrong]))]) hD hS hA [0] rfl
    refine va_calli (va_runV (As := []) (rest := [.int v2_1]) ⟨hx, hb, hml, hown, hts⟩ (c_X6_layers l dC dI cI cC cS aM aZ aPast aKz aBuf aStk aLaid aPcs aTold _ pastMany isKept typed wid hei toldMany spot wrong hq) (cwV 0 hts gX6_firstWhole_X6_layers rfl rfl rfl (by decide +kernel) ⟨Nat.le_of_ble_eq_true rfl, Nat.le_of_ble_eq_true rfl⟩) (gn_preV hPc hK hN hDc (ci := 5) (q0 := 0) rfl rfl) rfl rfl hl.1 rfl (lv_room (Nat.le_of_ble_eq_true rfl)) dX6_firstWhole_4 ⟨Nat.zero_le _, Nat.zero_le _⟩) hS (fun q _ h => hFc q h) hFc (fun r_2 u t H1 locs ht hvm hq hB hz1 hk1 hS => ?_)
    obtain ⟨hP1, hK1, hD1⟩ := hB
    rw [ht] at hP1
    try dsimp only at hq
    obtain ⟨hP, hD⟩ := va_join (wr := [(aZ, .inl (cI, 207, .inl zz)), (aStk, .inl (cI, 64, .inl stk))]) (w1 := [(aM, .inr (5, [.ref aZ, .ref aPast, .int pastMany, .ref aKz, .int isKept, .ref aBuf, .int typed, .ref aStk, .ref aLaid, .int wid, .int hei, .ref aPcs, .ref aTold, .int toldMany, .int spot, .int wrong]))]) hP hD [0] [1, 2] rfl rfl (by decide) (by decide) hk1 hFc hP1 hD1
    have hP := hP.sub (ws' := [(aM, .inr (5, [.ref aZ, .ref aPast, .int pastMany, .ref aKz, .int isKept, .ref aBuf, .int typed, .ref aStk, .ref aLaid, .int wid, .int hei, .ref aPcs, .ref aTold, .int toldMany, .int spot, .int wrong])), (aZ, .inl (cI, 207, .inl zz)), (aStk, .inl (cI, 64, .inl stk))]) [2, 0, 1] rfl
    have hD := hD.sub (ws' := [(aM, .inr (5, [.ref aZ, .ref aPast, .int pastMany, .ref aKz, .int isKept, .ref aBuf, .int typed, .ref aStk, .ref aLaid, .int wid, .int hei, .ref aPcs, .ref aTold, .int toldMany, .int spot, .int wrong])), (aZ, .inl (cI, 207, .inl zz)), (aStk, .inl (cI, 64, .inl stk))]) [2, 0, 1] (by decide) rfl
    generalize H1 = H at hP hS ⊢
    refine lv_icmp_ge (tgt := 46) hx hb dX6_firstWhole_7 (by decide) (fun hc => ?_) (fun hc => ?_)
    · have hq := hq.1 hc
      refine lv_bipush (v := -6) hx hb dX6_firstWhole_46 (by decide) ?_
      exact hret _ _ _ _ _ dX6_firstWhole_48 hP hD hS hq
    · have hq := hq.2 hc
      refine lv_aload_n hx hb dX6_firstWhole_10 rfl (lv_at hl 0 rfl) ?_
      refine va_get (D := (dC, dI)) (ci := 5) (v := .ref aZ) (C := RX6) (T := TX6) (N := 16) hx hb hts iwX6_firstWhole_X6 hown hK hP 0 rfl rfl 0 (by decide) (hts _ kwX6_firstWhole_7) (fun _ h9 => h9) rfl dX6_firstWhole_11 ?_
      refine lv_bipush (v := 7) hx hb dX6_firstWhole_14 (by decide) ?_
      refine lv_aload_n hx hb dX6_firstWhole_16 rfl (lv_at hl 0 rfl) ?_
      refine va_get (D := (dC, dI)) (ci := 5) (v := .ref aStk) (C := RX6) (T := TX6) (N := 16) hx hb hts iwX6_firstWhole_X6 hown hK hP 0 rfl rfl 7 (by decide) (hts _ kwX6_firstWhole_23) (fun _ h9 => h9) rfl dX6_firstWhole_17 ?_
      refine lv_iload_n hx hb dX6_firstWhole_20 rfl (lv_at hl 1 rfl) ?_
      refine lv_iload_n hx hb dX6_firstWhole_21 rfl (lv_at hl 2 rfl) ?_
      refine lv_iadd hx hb dX6_firstWhole_22 ?_
      have hin := hq.1
      have hq := hq.2
      refine va_iald hx hb hK hP 2 0 rfl rfl hin dX6_firstWhole_23 ?_
      refine lv_iconst (v := 2) hx hb dX6_firstWhole_24 (by decide) ?_
      refine lv_idiv hx hb dX6_firstWhole_25 (by decide) ?_
      refine lv_iadd hx hb dX6_firstWhole_26 ?_
      have hin := hq.1
      have hq := hq.2
      refine va_iald hx hb hK hP 1 0 rfl rfl hin dX6_firstWhole_27 ?_
      refine lv_if_ne (tgt := 40) hx hb dX6_firstWhole_28 (by decide) (fun hc => ?_) (fun hc => ?_)
      · have hq := hq.1 hc
        refine lv_iinc (v := (v2_1 + (1 : Int32))) (lv' := [(2, .int (v2_1 + (1 : Int32))), (0, .ref aM), (1, .int x1)]) hx hb dX6_firstWhole_40 hl (k := 2) rfl rfl (by decide) rfl (fun ls hl => ?_)
        refine lv_goto (tgt := 2) hx hb dX6_firstWhole_43 (by decide) ?_
        exact hq _ _ _ hP hD hS (lv_sub hl [1, 2, 0] rfl)
      · have hq := hq.2 hc
        refine lv_aload_n hx hb dX6_firstWhole_31 rfl (lv_at hl 0 rfl) ?_
        refine va_get (D := (dC, dI)) (ci := 5) (v := .ref aStk) (C := RX6) (T := TX6) (N := 16) hx hb hts iwX6_firstWhole_X6 hown hK hP 0 rfl rfl 7 (by decide) (hts _ kwX6_firstWhole_23) (fun _ h9 => h9) rfl dX6_firstWhole_32 ?_
        refine lv_iload_n hx hb dX6_firstWhole_35 rfl (lv_at hl 1 rfl) ?_
        refine lv_iload_n hx hb dX6_firstWhole_36 rfl (lv_at hl 2 rfl) ?_
        refine lv_iadd hx hb dX6_firstWhole_37 ?_
        have hin := hq.1
        have hq := hq.2
        refine va_iald hx hb hK hP 2 0 rfl rfl hin dX6_firstWhole_38 ?_
        exact hret _ _ _ _ _ dX6_firstWhole_39 hP hD hS hq)
  exact hq _ _ _ hP hD hS (lv_sub hl [1, 2, 0] rfl)
set_option maxHeartbeats 4000000 in
set_option maxRecDepth 100000 in
theorem c_X6_whyNotInk (l : Launch) (dC : Nat → ClassId) (dI : Nat → Nat → Nat) (cI cC cS : ClassId) (aM : Nat) (aZ : Nat) (aPast : Nat) (aKz : Nat) (aBuf : Nat) (aStk : Nat) (aLaid : Nat) (aPcs : Nat) (aTold : Nat) (sz : Nat) (pastMany : Int32) (isKept : Int32) (typed : Int32) (wid : Int32) (hei : Int32) (toldMany : Int32) (spot : Int32) (wrong : Int32) (zz : Nat → Int32) (stk : Nat → Int32) (laid : Nat → Int32) (x1 : Int32) (x2 : Int32) (x3 : Int32) {post : Int32 → Int32 → Int32 → (Nat → Int32) → (Nat → Int32) → Prop} (hq : wp_X6_whyNotInk wid hei zz stk laid x1 x2 x3 post) : Met l yX6_whyNotInk wsX6_whyNotInk ({ frames := 5, cells := 0, slots := 0, locals := 116 } : Room) (gn_Pre (dC, dI) cI cC cS [.ref aM, .int x1, .int x2, .int x3] sz [(aM, .inr (5, [.ref aZ, .ref aPast, .int pastMany, .ref aKz, .int isKept, .ref aBuf, .int typed, .ref aStk, .ref aLaid, .int wid, .int hei, .ref aPcs, .ref aTold, .int toldMany, .int spot, .int wrong])), (aZ, .inl (cI, 207, .inl zz)), (aStk, .inl (cI, 64, .inl stk)), (aLaid, .inl (cI, 64, .inl laid))]) (va_Qi (fun (r : Int32) (u : Int32 × Int32 × (Nat → Int32) × (Nat → Int32)) => post r u.1 u.2.1 u.2.2.1 u.2.2.2) (fun (u : Int32 × Int32 × (Nat → Int32) × (Nat → Int32)) t => va_P (dC, dI) vwCl [(aM, .inr (5, [.ref aZ, .ref aPast, .int pastMany, .ref aKz, .int isKept, .ref aBuf, .int typed, .ref aStk, .ref aLaid, .int u.1, .int u.2.1, .ref aPcs, .ref aTold, .int toldMany, .int spot, .int wrong])), (aZ, .inl (cI, 207, .inl zz)), (aStk, .inl (cI, 64, .inl u.2.2.1)), (aLaid, .inl (cI, 64, .inl u.2.2.2))] t.heap ∧ va_K (dC, dI) vwCl (gn_tys cI cC cS) t ∧ va_D (va_A [(aM, .inr (5, [.ref aZ, .ref aPast, .int pastMany, .ref aKz, .int isKept, .ref aBuf, .int typed, .ref aStk, .ref aLaid, .int wid, .int hei, .ref aPcs, .ref aTold, .int toldMany, .int spot, .int wrong])), (aZ, .inl (cI, 207, .inl zz)), (aStk, .inl (cI, 64, .inl stk)), (aLaid, .inl (cI, 64, .inl laid))] sz) [(aM, .inr (5, [.ref aZ, .ref aPast, .int pastMany, .ref aKz, .int isKept, .ref aBuf, .int typed, .ref aStk, .ref aLaid, .int u.1, .int u.2.1, .ref aPcs, .ref aTold, .int toldMany, .int spot, .int wrong])), (aZ, .inl (cI, 207, .inl zz)), (aStk, .inl (cI, 64, .inl u.2.2.1)), (aLaid, .inl (cI, 64, .inl u.2.2.2))]) (va_A [(aM, .inr (5, [.ref aZ, .ref aPast, .int pastMany, .ref aKz, .int isKept, .ref aBuf, .int typed, .ref aStk, .ref aLaid, .int wid, .int hei, .ref aPcs, .ref aTold, .int toldMany, .int spot, .int wrong])), (aZ, .inl (cI, 207, .inl zz)), (aStk, .inl (cI, 64, .inl stk)), (aLaid, .inl (cI, 64, .inl laid))] sz)) 0 0 (va_A [(aM, .inr (5, [.ref aZ, .ref aPast, .int pastMany, .ref aKz, .int isKept, .ref aBuf, .int typed, .ref aStk, .ref aLaid, .int wid, .int hei, .ref aPcs, .ref aTold, .int toldMany, .int spot, .int wrong])), (aZ, .inl (cI, 207, .inl zz)), (aStk, .inl (cI, 64, .inl stk)), (aLaid, .inl (cI, 64, .inl laid))] sz) := by
  unfold wp_X6_whyNotInk at hq
  refine Met.ofW (cc := cX6_whyNotInk) (maxL := 4) (ret := (some .int)) (by decide) rfl ?_
  intro p e s m args below meth c s₁ B hml hv
  obtain ⟨rfl, hsz, hP, hK, hN, hD0⟩ := hv
  have hx := B.exec
  have hb := B.bytes
  have hr := B.returns
  have hts := atoms_spec (ws := wsX6_whyNotInk) B.pre
  have hown : s.vm.findClass RX6 = some m.cls := findClass_of_methodNamed B.named
  have hlocks := B.notSynchronized
  subst hsz
  have hD := hD0.self (sz := s.heap.size)
  generalize hAe : va_A [(aM, .inr (5, [.ref aZ, .ref aPast, .int pastMany, .ref aKz, .int isKept, .ref aBuf, .int typed, .ref aStk, .ref aLaid, .int wid, .int hei, .ref aPcs, .ref aTold, .int toldMany, .int spot, .int wrong])), (aZ, .inl (cI, 207, .inl zz)), (aStk, .inl (cI, 64, .inl stk)), (aLaid, .inl (cI, 64, .inl laid))] s.heap.size = A at hD ⊢
  have hA : ∀ q : Nat, s.heap.size ≤ q → A q := fun q h => by rw [← hAe]; exact Or.inr h
  have hS : va_S A s.heap s.heap [] := va_S.rf
  have hl := lv_entry ([.ref aM, .int x1, .int x2, .int x3] : List Value) (n := 4) (Nat.le_of_ble_eq_true rfl)
  rw [lg_entry_eq]
  generalize (lg_sl ([.ref aM, .int x1, .int x2, .int x3] : List Value) ++ List.replicate (4 - (lg_sl ([.ref aM, .int x1, .int x2, .int x3] : List Value)).length) Slot.unset).toArray = ls at hl ⊢
  have hl : lv_has ls 4 [(0, .ref aM), (1, .int x1), (2, .int x2), (3, .int x3)] := hl
  refine gn_Q (hret := fun Q => ∀ (pc : Nat) (ls : Array Slot) (H : Heap) (locs : List Loc) (r : Int32) (m_wid : Int32) (m_hei : Int32) (m_stk : Nat → Int32) (m_laid : Nat → Int32), decode cX6_whyNotInk pc = .ok (.ireturn, 1) → va_P (dC, dI) vwCl [(aM, .inr (5, [.ref aZ, .ref aPast, .int pastMany, .ref aKz, .int isKept, .ref aBuf, .int typed, .ref aStk, .ref aLaid, .int m_wid, .int m_hei, .ref aPcs, .ref aTold, .int toldMany, .int spot, .int wrong])), (aZ, .inl (cI, 207, .inl zz)), (aStk, .inl (cI, 64, .inl m_stk)), (aLaid, .inl (cI, 64, .inl m_laid))] H → va_D A [(aM, .inr (5, [.ref aZ, .ref aPast, .int pastMany, .ref aKz, .int isKept, .ref aBuf, .int typed, .ref aStk, .ref aLaid, .int m_wid, .int m_hei, .ref aPcs, .ref aTold, .int toldMany, .int spot, .int wrong])), (aZ, .inl (cI, 207, .inl zz)), (aStk, .inl (cI, 64, .inl m_stk)), (aLaid, .inl (cI, 64, .inl m_laid))] → va_S A s.heap H locs → post r m_wid m_hei m_stk m_laid → W p l e ({ frames := 5, cells := 0, slots := 0, locals := 116 } : Room) s m ([.ref aM, .int x1, .int x2, .int x3] : List Value).toArray below meth c H locs 0 0 Q (F0 m pc ls [.int r])) (fun Q hret => ?_) ?_
  rotate_left
  · intro pc ls H locs r m_wid m_hei m_stk m_laid hdg hP hD hS hpost
    exact W.iret (v := r) hx hb hr (fun t ht hW => ⟨⟨r, (m_wid, m_hei, m_stk, m_laid), rfl, hpost, by rw [ht]; exact hP, va_K.moved hW.alike hK, hD⟩, hS.F ht⟩) hS.2.2 hdg
  refine lv_aload_n hx hb dX6_whyNotInk_0 rfl (lv_at hl 0 rfl) ?_
  refine lv_iload_n hx hb dX6_whyNotInk_1 rfl (lv_at hl 1 rfl) ?_
  refine lv_iload_n hx hb dX6_whyNotInk_2 rfl (lv_at hl 2 rfl) ?_
  have hPc := hP.sub (ws' := [(aM, .inr (5, [.ref aZ, .ref aPast, .int pastMany, .ref aKz, .int isKept, .ref aBuf, .int typed, .ref aStk, .ref aLaid, .int wid, .int hei, .ref aPcs, .ref aTold, .int toldMany, .int spot, .int wrong])), (aZ, .inl (cI, 207, .inl zz)), (aStk, .inl (cI, 64, .inl stk)), (aLaid, .inl (cI, 64, .inl laid))]) [0, 1, 2, 3] rfl
  have hDc := hD.sub (ws' := [(aM, .inr (5, [.ref aZ, .ref aPast, .int pastMany, .ref aKz, .int isKept, .ref aBuf, .int typed, .ref aStk, .ref aLaid, .int wid, .int hei, .ref aPcs, .ref aTold, .int toldMany, .int spot, .int wrong])), (aZ, .inl (cI, 207, .inl zz)), (aStk, .inl (cI, 64, .inl stk)), (aLaid, .inl (cI, 64, .inl laid))]) [0, 1, 2, 3] (by decide) rfl
  have hFc := va_free (wc := [(aM, .inr (5, [.ref aZ, .ref aPast, .int pastMany, .ref aKz, .int isKept, .ref aBuf, .int typed, .ref aStk, .ref aLaid, .int wid, .int hei, .ref aPcs, .ref aTold, .int toldMany, .int spot, .int wrong])), (aZ, .inl (cI, 207, .inl zz)), (aStk, .inl (cI, 64, .inl stk)), (aLaid, .inl (cI, 64, .inl laid))]) hD hS hA [0, 1, 2, 3] rfl
  refine va_calli (va_runV (As := [.int x1, .int x2]) (rest := []) ⟨hx, hb, hml, hown, hts⟩ (c_X6_top l dC dI cI cC cS aM aZ aPast aKz aBuf aStk aLaid aPcs aTold _ pastMany isKept typed wid hei toldMany spot wrong zz stk laid x1 x2 hq) (cwV 2 hts gX6_whyNotInk_X6_top rfl rfl rfl (by decide +kernel) ⟨Nat.le_of_ble_eq_true rfl, Nat.le_of_ble_eq_true rfl⟩) (gn_preV hPc hK hN hDc (ci := 5) (q0 := 0) rfl rfl) rfl rfl hl.1 rfl (lv_room (Nat.le_of_ble_eq_true rfl)) dX6_whyNotInk_3 ⟨Nat.zero_le _, Nat.zero_le _⟩) hS (fun q _ h => hFc q h) hFc (fun r_1 u t H1 locs ht hvm hq hB hz1 hk1 hS => ?_)
  obtain ⟨wid__2, hei__3, stk__4, laid__5⟩ := u
  obtain ⟨hP1, hK1, hD1⟩ := hB
  rw [ht] at hP1
  try dsimp only at hq
  obtain ⟨hP, hD⟩ := va_join (wr := []) (w1 := [(aM, .inr (5, [.ref aZ, .ref aPast, .int pastMany, .ref aKz, .int isKept, .ref aBuf, .int typed, .ref aStk, .ref aLaid, .int wid__2, .int hei__3, .ref aPcs, .ref aTold, .int toldMany, .int spot, .int wrong])), (aZ, .inl (cI, 207, .inl zz)), (aStk, .inl (cI, 64, .inl stk__4)), (aLaid, .inl (cI, 64, .inl laid__5))]) hP hD [0, 1, 2, 3] [] rfl rfl (by decide) (by decide) hk1 hFc hP1 hD1
  have hP := hP.sub (ws' := [(aM, .inr (5, [.ref aZ, .ref aPast, .int pastMany, .ref aKz, .int isKept, .ref aBuf, .int typed, .ref aStk, .ref aLaid, .int wid__2, .int hei__3, .ref aPcs, .ref aTold, .int toldMany, .int spot, .int wrong])), (aZ, .inl (cI, 207, .inl zz)), (aStk, .inl (cI, 64, .inl stk__4)), (aLaid, .inl (cI, 64, .inl laid__5))]) [0, 1, 2, 3] rfl
  have hD := hD.sub (ws' := [(aM, .inr (5, [.ref aZ, .ref aPast, .int pastMany, .ref aKz, .int isKept, .ref aBuf, .int typed, .ref aStk, .ref aLaid, .int wid__2, .int hei__3, .ref aPcs, .ref aTold, .int toldMany, .int spot, .int wrong])), (aZ, .inl (cI, 207, .inl zz)), (aStk, .inl (cI, 64, .inl stk__4)), (aLaid, .inl (cI, 64, .inl laid__5))]) [0, 1, 2, 3] (by decide) rfl
  generalize H1 = H at hP hS ⊢
  refine lv_bipush (v := -6) hx hb dX6_whyNotInk_6 (by decide) ?_
  refine lv_icmp_ne (tgt := 15) hx hb dX6_whyNotInk_8 (by decide) (fun hc => ?_) (fun hc => ?_)
  · have hq := hq.1 hc
    refine lv_iload_n hx hb dX6_whyNotInk_15 rfl (lv_at hl 3 rfl) ?_
    refine lv_iconst (v := 1) hx hb dX6_whyNotInk_16 (by decide) ?_
    refine lv_iconst (v := 5) hx hb dX6_whyNotInk_17 (by decide) ?_
    have hPc := hP.sub (ws' := []) [] rfl
    have hDc := hD.sub (ws' := []) [] (by decide) rfl
    have hFc := va_free (wc := []) hD hS hA [] rfl
    refine va_calli (va_runS (As := [.int x3, .int (1 : Int32), .int (5 : Int32)]) (rest := []) ⟨hx, hb, hml, hown, hts⟩ (c_X6_in l dC dI cI cC cS _ x3 (1 : Int32) (5 : Int32) hq) (va_cwS 3 hts gX6_whyNotInk_X6_in rfl rfl rfl (by decide +kernel) ⟨Nat.le_of_ble_eq_true rfl, Nat.le_of_ble_eq_true rfl⟩) (gn_preS hPc hK hN hDc) rfl rfl hl.1 rfl (lv_room (Nat.le_of_ble_eq_true rfl)) dX6_whyNotInk_18 ⟨Nat.zero_le _, Nat.zero_le _⟩) hS (fun q _ h => hFc q h) hFc (fun r_6 u t H1 locs ht hvm hq hB hz1 hk1 hS => ?_)
    obtain ⟨hP1, hK1, hD1⟩ := hB
    rw [ht] at hP1
    try dsimp only at hq
    obtain ⟨hP, hD⟩ := va_join (wr := [(aM, .inr (5, [.ref aZ, .ref aPast, .int pastMany, .ref aKz, .int isKept, .ref aBuf, .int typed, .ref aStk, .ref aLaid, .int wid__2, .int hei__3, .ref aPcs, .ref aTold, .int toldMany, .int spot, .int wrong])), (aZ, .inl (cI, 207, .inl zz)), (aStk, .inl (cI, 64, .inl stk__4)), (aLaid, .inl (cI, 64, .inl laid__5))]) (w1 := []) hP hD [] [0, 1, 2, 3] rfl rfl (by decide) (by decide) hk1 hFc hP1 hD1
    have hP := hP.sub (ws' := [(aM, .inr (5, [.ref aZ, .ref aPast, .int pastMany, .ref aKz, .int isKept, .ref aBuf, .int typed, .ref aStk, .ref aLaid, .int wid__2, .int hei__3, .ref aPcs, .ref aTold, .int toldMany, .int spot, .int wrong])), (aZ, .inl (cI, 207, .inl zz)), (aStk, .inl (cI, 64, .inl stk__4)), (aLaid, .inl (cI, 64, .inl laid__5))]) [0, 1, 2, 3] rfl
    have hD := hD.sub (ws' := [(aM, .inr (5, [.ref aZ, .ref aPast, .int pastMany, .ref aKz, .int isKept, .ref aBuf, .int typed, .ref aStk, .ref aLaid, .int wid__2, .int hei__3, .ref aPcs, .ref aTold, .int toldMany, .int spot, .int wrong])), (aZ, .inl (cI, 207, .inl zz)), (aStk, .inl (cI, 64, .inl stk__4)), (aLaid, .inl (cI, 64, .inl laid__5))]) [0, 1, 2, 3] (by decide) rfl
    generalize H1 = H at hP hS ⊢
    refine lv_if_eq (tgt := 28) hx hb dX6_whyNotInk_21 (by decide) (fun hc => ?_) (fun hc => ?_)
    · have hq := hq.1 hc
      refine lv_bipush (v := -2) hx hb dX6_whyNotInk_28 (by decide) ?_
      exact hret _ _ _ _ _ _ _ _ _ dX6_whyNotInk_30 hP hD hS hq
    · have hq := hq.2 hc
      refine lv_iconst (v := 0) hx hb dX6_whyNotInk_24 (by decide) ?_
      refine lv_goto (tgt := 30) hx hb dX6_whyNotInk_25 (by decide) ?_
      exact hret _ _ _ _ _ _ _ _ _ dX6_whyNotInk_30 hP hD hS hq
  · have hq := hq.2 hc
    refine lv_iconst (v := -1) hx hb dX6_whyNotInk_11 (by decide) ?_
    refine lv_goto (tgt := 30) hx hb dX6_whyNotInk_12 (by decide) ?_
    exact hret _ _ _ _ _ _ _ _ _ dX6_whyNotInk_30 hP hD hS hq
set_option maxRecDepth 20000 in
theorem kwX6_inks_7 : Cond.fieldLink RX6 7 "PunchedFoldsModel" "z" "[I" ∈ wsX6_inks := by decide +kernel
set_option maxRecDepth 20000 in
theorem iwX6_inks_X6 : ∀ w ∈ wsX60, w ∈ wsX6_inks := by decide +kernel
set_option maxHeartbeats 4000000 in
set_option maxRecDepth 100000 in
theorem c_X6_inks (l : Launch) (dC : Nat → ClassId) (dI : Nat → Nat → Nat) (cI cC cS : ClassId) (aM : Nat) (aZ : Nat) (aPast : Nat) (aKz : Nat) (aBuf : Nat) (aStk : Nat) (aLaid : Nat) (aPcs : Nat) (aTold : Nat) (sz : Nat) (pastMany : Int32) (isKept : Int32) (typed : Int32) (wid : Int32) (hei : Int32) (toldMany : Int32) (spot : Int32) (wrong : Int32) (zz : Nat → Int32) (stk : Nat → Int32) (laid : Nat → Int32) (x1 : Int32) (x2 : Int32) (x3 : Int32) {post : Int32 → Int32 → Int32 → (Nat → Int32) → (Nat → Int32) → (Nat → Int32) → Prop} (hq : wp_X6_inks wid hei zz stk laid x1 x2 x3 post) : Met l yX6_inks wsX6_inks ({ frames := 5, cells := 0, slots := 0, locals := 116 } : Room) (gn_Pre (dC, dI) cI cC cS [.ref aM, .int x1, .int x2, .int x3] sz [(aM, .inr (5, [.ref aZ, .ref aPast, .int pastMany, .ref aKz, .int isKept, .ref aBuf, .int typed, .ref aStk, .ref aLaid, .int wid, .int hei, .ref aPcs, .ref aTold, .int toldMany, .int spot, .int wrong])), (aZ, .inl (cI, 207, .inl zz)), (aStk, .inl (cI, 64, .inl stk)), (aLaid, .inl (cI, 64, .inl laid))]) (va_Qi (fun (r : Int32) (u : Int32 × Int32 × (Nat → Int32) × (Nat → Int32) × (Nat → Int32)) => post r u.1 u.2.1 u.2.2.1 u.2.2.2.1 u.2.2.2.2) (fun (u : Int32 × Int32 × (Nat → Int32) × (Nat → Int32) × (Nat → Int32)) t => va_P (dC, dI) vwCl [(aM, .inr (5, [.ref aZ, .ref aPast, .int pastMany, .ref aKz, .int isKept, .ref aBuf, .int typed, .ref aStk, .ref aLaid, .int u.1, .int u.2.1, .ref aPcs, .ref aTold, .int toldMany, .int spot, .int wrong])), (aZ, .inl (cI, 207, .inl u.2.2.1)), (aStk, .inl (cI, 64, .inl u.2.2.2.1)), (aLaid, .inl (cI, 64, .inl u.2.2.2.2))] t.heap ∧ va_K (dC, dI) vwCl (gn_tys cI cC cS) t ∧ va_D (va_A [(aM, .inr (5, [.ref aZ, .ref aPast, .int pastMany, .ref aKz, .int isKept, .ref aBuf, .int typed, .ref aStk, .ref aLaid, .int wid, .int hei, .ref aPcs, .ref aTold, .int toldMany, .int spot, .int wrong])), (aZ, .inl (cI, 207, .inl zz)), (aStk, .inl (cI, 64, .inl stk)), (aLaid, .inl (cI, 64, .inl laid))] sz) [(aM, .inr (5, [.ref aZ, .ref aPast, .int pastMany, .ref aKz, .int isKept, .ref aBuf, .int typed, .ref aStk, .ref aLaid, .int u.1, .int u.2.1, .ref aPcs, .ref aTold, .int toldMany, .int spot, .int wrong])), (aZ, .inl (cI, 207, .inl u.2.2.1)), (aStk, .inl (cI, 64, .inl u.2.2.2.1)), (aLaid, .inl (cI, 64, .inl u.2.2.2.2))]) (va_A [(aM, .inr (5, [.ref aZ, .ref aPast, .int pastMany, .ref aKz, .int isKept, .ref aBuf, .int typed, .ref aStk, .ref aLaid, .int wid, .int hei, .ref aPcs, .ref aTold, .int toldMany, .int spot, .int wrong])), (aZ, .inl (cI, 207, .inl zz)), (aStk, .inl (cI, 64, .inl stk)), (aLaid, .inl (cI, 64, .inl laid))] sz)) 0 0 (va_A [(aM, .inr (5, [.ref aZ, .ref aPast, .int pastMany, .ref aKz, .int isKept, .ref aBuf, .int typed, .ref aStk, .ref aLaid, .int wid, .int hei, .ref aPcs, .ref aTold, .int toldMany, .int spot, .int wrong])), (aZ, .inl (cI, 207, .inl zz)), (aStk, .inl (cI, 64, .inl stk)), (aLaid, .inl (cI, 64, .inl laid))] sz) := by
  unfold wp_X6_inks at hq
  refine Met.ofW (cc := cX6_inks) (maxL := 5) (ret := (some .int)) (by decide) rfl ?_
  intro p e s m args below meth c s₁ B hml hv
  obtain ⟨rfl, hsz, hP, hK, hN, hD0⟩ := hv
  have hx := B.exec
  have hb := B.bytes
  have hr := B.returns
  have hts := atoms_spec (ws := wsX6_inks) B.pre
  have hown : s.vm.findClass RX6 = some m.cls := findClass_of_methodNamed B.named
  have hlocks := B.notSynchronized
  subst hsz
  have hD := hD0.self (sz := s.heap.size)
  generalize hAe : va_A [(aM, .inr (5, [.ref aZ, .ref aPast, .int pastMany, .ref aKz, .int isKept, .ref aBuf, .int typed, .ref aStk, .ref aLaid, .int wid, .int hei, .ref aPcs, .ref aTold, .int toldMany, .int spot, .int wrong])), (aZ, .inl (cI, 207, .inl zz)), (aStk, .inl (cI, 64, .inl stk)), (aLaid, .inl (cI, 64, .inl laid))] s.heap.size = A at hD ⊢
  have hA : ∀ q : Nat, s.heap.size ≤ q → A q := fun q h => by rw [← hAe]; exact Or.inr h
  have hS : va_S A s.heap s.heap [] := va_S.rf
  have hl := lv_entry ([.ref aM, .int x1, .int x2, .int x3] : List Value) (n := 5) (Nat.le_of_ble_eq_true rfl)
  rw [lg_entry_eq]
  generalize (lg_sl ([.ref aM, .int x1, .int x2, .int x3] : List Value) ++ List.replicate (5 - (lg_sl ([.ref aM, .int x1, .int x2, .int x3] : List Value)).length) Slot.unset).toArray = ls at hl ⊢
  have hl : lv_has ls 5 [(0, .ref aM), (1, .int x1), (2, .int x2), (3, .int x3)] := hl
  refine gn_Q (hret := fun Q => ∀ (pc : Nat) (ls : Array Slot) (H : Heap) (locs : List Loc) (r : Int32) (m_wid : Int32) (m_hei : Int32) (m_zz : Nat → Int32) (m_stk : Nat → Int32) (m_laid : Nat → Int32), decode cX6_inks pc = .ok (.ireturn, 1) → va_P (dC, dI) vwCl [(aM, .inr (5, [.ref aZ, .ref aPast, .int pastMany, .ref aKz, .int isKept, .ref aBuf, .int typed, .ref aStk, .ref aLaid, .int m_wid, .int m_hei, .ref aPcs, .ref aTold, .int toldMany, .int spot, .int wrong])), (aZ, .inl (cI, 207, .inl m_zz)), (aStk, .inl (cI, 64, .inl m_stk)), (aLaid, .inl (cI, 64, .inl m_laid))] H → va_D A [(aM, .inr (5, [.ref aZ, .ref aPast, .int pastMany, .ref aKz, .int isKept, .ref aBuf, .int typed, .ref aStk, .ref aLaid, .int m_wid, .int m_hei, .ref aPcs, .ref aTold, .int toldMany, .int spot, .int wrong])), (aZ, .inl (cI, 207, .inl m_zz)), (aStk, .inl (cI, 64, .inl m_stk)), (aLaid, .inl (cI, 64, .inl m_laid))] → va_S A s.heap H locs → post r m_wid m_hei m_zz m_stk m_laid → W p l e ({ frames := 5, cells := 0, slots := 0, locals := 116 } : Room) s m ([.ref aM, .int x1, .int x2, .int x3] : List Value).toArray below meth c H locs 0 0 Q (F0 m pc ls [.int r])) (fun Q hret => ?_) ?_
  rotate_left
  · intro pc ls H locs r m_wid m_hei m_zz m_stk m_laid hdg hP hD hS hpost
    exact W.iret (v := r) hx hb hr (fun t ht hW => ⟨⟨r, (m_wid, m_hei, m_zz, m_stk, m_laid), rfl, hpost, by rw [ht]; exact hP, va_K.moved hW.alike hK, hD⟩, hS.F ht⟩) hS.2.2 hdg
  refine lv_aload_n hx hb dX6_inks_0 rfl (lv_at hl 0 rfl) ?_
  refine lv_aload_n hx hb dX6_inks_1 rfl (lv_at hl 0 rfl) ?_
  refine lv_iload_n hx hb dX6_inks_2 rfl (lv_at hl 1 rfl) ?_
  refine lv_iload_n hx hb dX6_inks_3 rfl (lv_at hl 2 rfl) ?_
  have hPc := hP.sub (ws' := [(aM, .inr (5, [.ref aZ, .ref aPast, .int pastMany, .ref aKz, .int isKept, .ref aBuf, .int typed, .ref aStk, .ref aLaid, .int wid, .int hei, .ref aPcs, .ref aTold, .int toldMany, .int spot, .int wrong])), (aZ, .inl (cI, 207, .inl zz)), (aStk, .inl (cI, 64, .inl stk)), (aLaid, .inl (cI, 64, .inl laid))]) [0, 1, 2, 3] rfl
  have hDc := hD.sub (ws' := [(aM, .inr (5, [.ref aZ, .ref aPast, .int pastMany, .ref aKz, .int isKept, .ref aBuf, .int typed, .ref aStk, .ref aLaid, .int wid, .int hei, .ref aPcs, .ref aTold, .int toldMany, .int spot, .int wrong])), (aZ, .inl (cI, 207, .inl zz)), (aStk, .inl (cI, 64, .inl stk)), (aLaid, .inl (cI, 64, .inl laid))]) [0, 1, 2, 3] (by decide) rfl
  have hFc := va_free (wc := [(aM, .inr (5, [.ref aZ, .ref aPast, .int pastMany, .ref aKz, .int isKept, .ref aBuf, .int typed, .ref aStk, .ref aLaid, .int wid, .int hei, .ref aPcs, .ref aTold, .int toldMany, .int spot, .int wrong])), (aZ, .inl (cI, 207, .inl zz)), (aStk, .inl (cI, 64, .inl stk)), (aLaid, .inl (cI, 64, .inl laid))]) hD hS hA [0, 1, 2, 3] rfl
  refine va_calli (va_runV (As := [.int x1, .int x2]) (rest := [.ref aM]) ⟨hx, hb, hml, hown, hts⟩ (c_X6_top l dC dI cI cC cS aM aZ aPast aKz aBuf aStk aLaid aPcs aTold _ pastMany isKept typed wid hei toldMany spot wrong zz stk laid x1 x2 hq) (cwV 2 hts gX6_inks_X6_top rfl rfl rfl (by decide +kernel) ⟨Nat.le_of_ble_eq_true rfl, Nat.le_of_ble_eq_true rfl⟩) (gn_preV hPc hK hN hDc (ci := 5) (q0 := 0) rfl rfl) rfl rfl hl.1 rfl (lv_room (Nat.le_of_ble_eq_true rfl)) dX6_inks_4 ⟨Nat.zero_le _, Nat.zero_le _⟩) hS (fun q _ h => hFc q h) hFc (fun r_1 u t H1 locs ht hvm hq hB hz1 hk1 hS => ?_)
  obtain ⟨wid__2, hei__3, stk__4, laid__5⟩ := u
  obtain ⟨hP1, hK1, hD1⟩ := hB
  rw [ht] at hP1
  try dsimp only at hq
  obtain ⟨hP, hD⟩ := va_join (wr := []) (w1 := [(aM, .inr (5, [.ref aZ, .ref aPast, .int pastMany, .ref aKz, .int isKept, .ref aBuf, .int typed, .ref aStk, .ref aLaid, .int wid__2, .int hei__3, .ref aPcs, .ref aTold, .int toldMany, .int spot, .int wrong])), (aZ, .inl (cI, 207, .inl zz)), (aStk, .inl (cI, 64, .inl stk__4)), (aLaid, .inl (cI, 64, .inl laid__5))]) hP hD [0, 1, 2, 3] [] rfl rfl (by decide) (by decide) hk1 hFc hP1 hD1
  have hP := hP.sub (ws' := [(aM, .inr (5, [.ref aZ, .ref aPast, .int pastMany, .ref aKz, .int isKept, .ref aBuf, .int typed, .ref aStk, .ref aLaid, .int wid__2, .int hei__3, .ref aPcs, .ref aTold, .int toldMany, .int spot, .int wrong])), (aZ, .inl (cI, 207, .inl zz)), (aStk, .inl (cI, 64, .inl stk__4)), (aLaid, .inl (cI, 64, .inl laid__5))]) [0, 1, 2, 3] rfl
  have hD := hD.sub (ws' := [(aM, .inr (5, [.ref aZ, .ref aPast, .int pastMany, .ref aKz, .int isKept, .ref aBuf, .int typed, .ref aStk, .ref aLaid, .int wid__2, .int hei__3, .ref aPcs, .ref aTold, .int toldMany, .int spot, .int wrong])), (aZ, .inl (cI, 207, .inl zz)), (aStk, .inl (cI, 64, .inl stk__4)), (aLaid, .inl (cI, 64, .inl laid__5))]) [0, 1, 2, 3] (by decide) rfl
  generalize H1 = H at hP hS ⊢
  have hPc := hP.sub (ws' := [(aM, .inr (5, [.ref aZ, .ref aPast, .int pastMany, .ref aKz, .int isKept, .ref aBuf, .int typed, .ref aStk, .ref aLaid, .int wid__2, .int hei__3, .ref aPcs, .ref aTold, .int toldMany, .int spot, .int wrong])), (aZ, .inl (cI, 207, .inl zz)), (aStk, .inl (cI, 64, .inl stk__4))]) [0, 1, 2] rfl
  have hDc := hD.sub (ws' := [(aM, .inr (5, [.ref aZ, .ref aPast, .int pastMany, .ref aKz, .int isKept, .ref aBuf, .int typed, .ref aStk, .ref aLaid, .int wid__2, .int hei__3, .ref aPcs, .ref aTold, .int toldMany, .int spot, .int wrong])), (aZ, .inl (cI, 207, .inl zz)), (aStk, .inl (cI, 64, .inl stk__4))]) [0, 1, 2] (by decide) rfl
  have hFc := va_free (wc := [(aM, .inr (5, [.ref aZ, .ref aPast, .int pastMany, .ref aKz, .int isKept, .ref aBuf, .int typed, .ref aStk, .ref aLaid, .int wid__2, .int hei__3, .ref aPcs, .ref aTold, .int toldMany, .int spot, .int wrong])), (aZ, .inl (cI, 207, .inl zz)), (aStk, .inl (cI, 64, .inl stk__4))]) hD hS hA [0, 1, 2] rfl
  refine va_calli (va_runV (As := [.int r_1]) (rest := []) ⟨hx, hb, hml, hown, hts⟩ (c_X6_firstWhole l dC dI cI cC cS aM aZ aPast aKz aBuf aStk aLaid aPcs aTold _ pastMany isKept typed wid__2 hei__3 toldMany spot wrong zz stk__4 r_1 hq) (cwV 1 hts gX6_inks_X6_firstWhole rfl rfl rfl (by decide +kernel) ⟨Nat.le_of_ble_eq_true rfl, Nat.le_of_ble_eq_true rfl⟩) (gn_preV hPc hK hN hDc (ci := 5) (q0 := 0) rfl rfl) rfl rfl hl.1 rfl (lv_room (Nat.le_of_ble_eq_true rfl)) dX6_inks_7 ⟨Nat.zero_le _, Nat.zero_le _⟩) hS (fun q _ h => hFc q h) hFc (fun r_6 u t H1 locs ht hvm hq hB hz1 hk1 hS => ?_)
  obtain ⟨hP1, hK1, hD1⟩ := hB
  rw [ht] at hP1
  try dsimp only at hq
  obtain ⟨hP, hD⟩ := va_join (wr := [(aLaid, .inl (cI, 64, .inl laid__5))]) (w1 := [(aM, .inr (5, [.ref aZ, .ref aPast, .int pastMany, .ref aKz, .int isKept, .ref aBuf, .int typed, .ref aStk, .ref aLaid, .int wid__2, .int hei__3, .ref aPcs, .ref aTold, .int toldMany, .int spot, .int wrong])), (aZ, .inl (cI, 207, .inl zz)), (aStk, .inl (cI, 64, .inl stk__4))]) hP hD [0, 1, 2] [3] rfl rfl (by decide) (by decide) hk1 hFc hP1 hD1
  have hP := hP.sub (ws' := [(aM, .inr (5, [.ref aZ, .ref aPast, .int pastMany, .ref aKz, .int isKept, .ref aBuf, .int typed, .ref aStk, .ref aLaid, .int wid__2, .int hei__3, .ref aPcs, .ref aTold, .int toldMany, .int spot, .int wrong])), (aZ, .inl (cI, 207, .inl zz)), (aStk, .inl (cI, 64, .inl stk__4)), (aLaid, .inl (cI, 64, .inl laid__5))]) [1, 2, 3, 0] rfl
  have hD := hD.sub (ws' := [(aM, .inr (5, [.ref aZ, .ref aPast, .int pastMany, .ref aKz, .int isKept, .ref aBuf, .int typed, .ref aStk, .ref aLaid, .int wid__2, .int hei__3, .ref aPcs, .ref aTold, .int toldMany, .int spot, .int wrong])), (aZ, .inl (cI, 207, .inl zz)), (aStk, .inl (cI, 64, .inl stk__4)), (aLaid, .inl (cI, 64, .inl laid__5))]) [1, 2, 3, 0] (by decide) rfl
  generalize H1 = H at hP hS ⊢
  refine lv_istore (lv' := [(4, .int r_6), (0, .ref aM), (1, .int x1), (2, .int x2), (3, .int x3)]) hx hb dX6_inks_10 hl (by decide) rfl (fun ls hl => ?_)
  refine lv_iload hx hb dX6_inks_12 (lv_at hl 0 rfl) ?_
  refine lv_bipush (v := -6) hx hb dX6_inks_14 (by decide) ?_
  refine lv_icmp_ne (tgt := 22) hx hb dX6_inks_16 (by decide) (fun hc => ?_) (fun hc => ?_)
  · have hq := hq.1 hc
    refine lv_aload_n hx hb dX6_inks_22 rfl (lv_at hl 1 rfl) ?_
    refine va_get (D := (dC, dI)) (ci := 5) (v := .ref aZ) (C := RX6) (T := TX6) (N := 16) hx hb hts iwX6_inks_X6 hown hK hP 0 rfl rfl 0 (by decide) (hts _ kwX6_inks_7) (fun _ h9 => h9) rfl dX6_inks_23 ?_
    refine lv_bipush (v := 71) hx hb dX6_inks_26 (by decide) ?_
    refine lv_iload hx hb dX6_inks_28 (lv_at hl 0 rfl) ?_
    refine lv_iadd hx hb dX6_inks_30 ?_
    refine lv_iload_n hx hb dX6_inks_31 rfl (lv_at hl 4 rfl) ?_
    have hin := hq.1
    have hq := hq.2
    refine va_iast hx hb hK hP hD hS 1 0 rfl rfl hin dX6_inks_32 (fun H locs hP hD hS => ?_)
    have hP : va_P (dC, dI) vwCl [(aM, .inr (5, [.ref aZ, .ref aPast, .int pastMany, .ref aKz, .int isKept, .ref aBuf, .int typed, .ref aStk, .ref aLaid, .int wid__2, .int hei__3, .ref aPcs, .ref aTold, .int toldMany, .int spot, .int wrong])), (aZ, .inl (cI, 207, .inl (upd zz (((71 : Int32) + r_6)).toNatClampNeg x3))), (aStk, .inl (cI, 64, .inl stk__4)), (aLaid, .inl (cI, 64, .inl laid__5))] H := hP
    have hD : va_D A [(aM, .inr (5, [.ref aZ, .ref aPast, .int pastMany, .ref aKz, .int isKept, .ref aBuf, .int typed, .ref aStk, .ref aLaid, .int wid__2, .int hei__3, .ref aPcs, .ref aTold, .int toldMany, .int spot, .int wrong])), (aZ, .inl (cI, 207, .inl (upd zz (((71 : Int32) + r_6)).toNatClampNeg x3))), (aStk, .inl (cI, 64, .inl stk__4)), (aLaid, .inl (cI, 64, .inl laid__5))] := hD
    refine lv_iload hx hb dX6_inks_33 (lv_at hl 0 rfl) ?_
    refine lv_iconst (v := 2) hx hb dX6_inks_35 (by decide) ?_
    refine lv_idiv hx hb dX6_inks_36 (by decide) ?_
    exact hret _ _ _ _ _ _ _ _ _ _ dX6_inks_37 hP hD hS hq
  · have hq := hq.2 hc
    refine lv_bipush (v := -6) hx hb dX6_inks_19 (by decide) ?_
    exact hret _ _ _ _ _ _ _ _ _ _ dX6_inks_21 hP hD hS hq
set_option maxHeartbeats 4000000 in
set_option maxRecDepth 100000 in
theorem c_X6_ink (l : Launch) (dC : Nat → ClassId) (dI : Nat → Nat → Nat) (cI cC cS : ClassId) (aM : Nat) (aZ : Nat) (aPast : Nat) (aKz : Nat) (aBuf : Nat) (aStk : Nat) (aLaid : Nat) (aPcs : Nat) (aTold : Nat) (sz : Nat) (pastMany : Int32) (isKept : Int32) (typed : Int32) (wid : Int32) (hei : Int32) (toldMany : Int32) (spot : Int32) (wrong : Int32) (zz : Nat → Int32) (past : Nat → Int32) (stk : Nat → Int32) (laid : Nat → Int32) (x1 : Int32) (x2 : Int32) (x3 : Int32) {post : Int32 → Int32 → Int32 → Int32 → (Nat → Int32) → (Nat → Int32) → (Nat → Int32) → (Nat → Int32) → Prop} (hq : wp_X6_ink pastMany wid hei zz past stk laid x1 x2 x3 post) : Met l yX6_ink wsX6_ink ({ frames := 6, cells := 0, slots := 0, locals := 140 } : Room) (gn_Pre (dC, dI) cI cC cS [.ref aM, .int x1, .int x2, .int x3] sz [(aM, .inr (5, [.ref aZ, .ref aPast, .int pastMany, .ref aKz, .int isKept, .ref aBuf, .int typed, .ref aStk, .ref aLaid, .int wid, .int hei, .ref aPcs, .ref aTold, .int toldMany, .int spot, .int wrong])), (aZ, .inl (cI, 207, .inl zz)), (aPast, .inl (cI, 1035, .inl past)), (aStk, .inl (cI, 64, .inl stk)), (aLaid, .inl (cI, 64, .inl laid))]) (va_Qi (fun (r : Int32) (u : Int32 × Int32 × Int32 × (Nat → Int32) × (Nat → Int32) × (Nat → Int32) × (Nat → Int32)) => post r u.1 u.2.1 u.2.2.1 u.2.2.2.1 u.2.2.2.2.1 u.2.2.2.2.2.1 u.2.2.2.2.2.2) (fun (u : Int32 × Int32 × Int32 × (Nat → Int32) × (Nat → Int32) × (Nat → Int32) × (Nat → Int32)) t => va_P (dC, dI) vwCl [(aM, .inr (5, [.ref aZ, .ref aPast, .int u.1, .ref aKz, .int isKept, .ref aBuf, .int typed, .ref aStk, .ref aLaid, .int u.2.1, .int u.2.2.1, .ref aPcs, .ref aTold, .int toldMany, .int spot, .int wrong])), (aZ, .inl (cI, 207, .inl u.2.2.2.1)), (aPast, .inl (cI, 1035, .inl u.2.2.2.2.1)), (aStk, .inl (cI, 64, .inl u.2.2.2.2.2.1)), (aLaid, .inl (cI, 64, .inl u.2.2.2.2.2.2))] t.heap ∧ va_K (dC, dI) vwCl (gn_tys cI cC cS) t ∧ va_D (va_A [(aM, .inr (5, [.ref aZ, .ref aPast, .int pastMany, .ref aKz, .int isKept, .ref aBuf, .int typed, .ref aStk, .ref aLaid, .int wid, .int hei, .ref aPcs, .ref aTold, .int toldMany, .int spot, .int wrong])), (aZ, .inl (cI, 207, .inl zz)), (aPast, .inl (cI, 1035, .inl past)), (aStk, .inl (cI, 64, .inl stk)), (aLaid, .inl (cI, 64, .inl laid))] sz) [(aM, .inr (5, [.ref aZ, .ref aPast, .int u.1, .ref aKz, .int isKept, .ref aBuf, .int typed, .ref aStk, .ref aLaid, .int u.2.1, .int u.2.2.1, .ref aPcs, .ref aTold, .int toldMany, .int spot, .int wrong])), (aZ, .inl (cI, 207, .inl u.2.2.2.1)), (aPast, .inl (cI, 1035, .inl u.2.2.2.2.1)), (aStk, .inl (cI, 64, .inl u.2.2.2.2.2.1)), (aLaid, .inl (cI, 64, .inl u.2.2.2.2.2.2))]) (va_A [(aM, .inr (5, [.ref aZ, .ref aPast, .int pastMany, .ref aKz, .int isKept, .ref aBuf, .int typed, .ref aStk, .ref aLaid, .int wid, .int hei, .ref aPcs, .ref aTold, .int toldMany, .int spot, .int wrong])), (aZ, .inl (cI, 207, .inl zz)), (aPast, .inl (cI, 1035, .inl past)), (aStk, .inl (cI, 64, .inl stk)), (aLaid, .inl (cI, 64, .inl laid))] sz)) 0 0 (va_A [(aM, .inr (5, [.ref aZ, .ref aPast, .int pastMany, .ref aKz, .int isKept, .ref aBuf, .int typed, .ref aStk, .ref aLaid, .int wid, .int hei, .ref aPcs, .ref aTold, .int toldMany, .int spot, .int wrong])), (aZ, .inl (cI, 207, .inl zz)), (aPast, .inl (cI, 1035, .inl past)), (aStk, .inl (cI, 64, .inl stk)), (aLaid, .inl (cI, 64, .inl laid))] sz) := by
  unfold wp_X6_ink at hq
  refine Met.ofW (cc := cX6_ink) (maxL := 5) (ret := (some .int)) (by decide) rfl ?_
  intro p e s m args below meth c s₁ B hml hv
  obtain ⟨rfl, hsz, hP, hK, hN, hD0⟩ := hv
  have hx := B.exec
  have hb := B.bytes
  have hr := B.returns
  have hts := atoms_spec (ws := wsX6_ink) B.pre
  have hown : s.vm.findClass RX6 = some m.cls := findClass_of_methodNamed B.named
  have hlocks := B.notSynchronized
  subst hsz
  have hD := hD0.self (sz := s.heap.size)
  generalize hAe : va_A [(aM, .inr (5, [.ref aZ, .ref aPast, .int pastMany, .ref aKz, .int isKept, .ref aBuf, .int typed, .ref aStk, .ref aLaid, .int wid, .int hei, .ref aPcs, .ref aTold, .int toldMany, .int spot, .int wrong])), (aZ, .inl (cI, 207, .inl zz)), (aPast, .inl (cI, 1035, .inl past)), (aStk, .inl (cI, 64, .inl stk)), (aLaid, .inl (cI, 64, .inl laid))] s.heap.size = A at hD ⊢
  have hA : ∀ q : Nat, s.heap.size ≤ q → A q := fun q h => by rw [← hAe]; exact Or.inr h
  have hS : va_S A s.heap s.heap [] := va_S.rf
  have hl := lv_entry ([.ref aM, .int x1, .int x2, .int x3] : List Value) (n := 5) (Nat.le_of_ble_eq_true rfl)
  rw [lg_entry_eq]
  generalize (lg_sl ([.ref aM, .int x1, .int x2, .int x3] : List Value) ++ List.replicate (5 - (lg_sl ([.ref aM, .int x1, .int x2, .int x3] : List Value)).length) Slot.unset).toArray = ls at hl ⊢
  have hl : lv_has ls 5 [(0, .ref aM), (1, .int x1), (2, .int x2), (3, .int x3)] := hl
  refine gn_Q (hret := fun Q => ∀ (pc : Nat) (ls : Array Slot) (H : Heap) (locs : List Loc) (r : Int32) (m_pastMany : Int32) (m_wid : Int32) (m_hei : Int32) (m_zz : Nat → Int32) (m_past : Nat → Int32) (m_stk : Nat → Int32) (m_laid : Nat → Int32), decode cX6_ink pc = .ok (.ireturn, 1) → va_P (dC, dI) vwCl [(aM, .inr (5, [.ref aZ, .ref aPast, .int m_pastMany, .ref aKz, .int isKept, .ref aBuf, .int typed, .ref aStk, .ref aLaid, .int m_wid, .int m_hei, .ref aPcs, .ref aTold, .int toldMany, .int spot, .int wrong])), (aZ, .inl (cI, 207, .inl m_zz)), (aPast, .inl (cI, 1035, .inl m_past)), (aStk, .inl (cI, 64, .inl m_stk)), (aLaid, .inl (cI, 64, .inl m_laid))] H → va_D A [(aM, .inr (5, [.ref aZ, .ref aPast, .int m_pastMany, .ref aKz, .int isKept, .ref aBuf, .int typed, .ref aStk, .ref aLaid, .int m_wid, .int m_hei, .ref aPcs, .ref aTold, .int toldMany, .int spot, .int wrong])), (aZ, .inl (cI, 207, .inl m_zz)), (aPast, .inl (cI, 1035, .inl m_past)), (aStk, .inl (cI, 64, .inl m_stk)), (aLaid, .inl (cI, 64, .inl m_laid))] → va_S A s.heap H locs → post r m_pastMany m_wid m_hei m_zz m_past m_stk m_laid → W p l e ({ frames := 6, cells := 0, slots := 0, locals := 140 } : Room) s m ([.ref aM, .int x1, .int x2, .int x3] : List Value).toArray below meth c H locs 0 0 Q (F0 m pc ls [.int r])) (fun Q hret => ?_) ?_
  rotate_left
  · intro pc ls H locs r m_pastMany m_wid m_hei m_zz m_past m_stk m_laid hdg hP hD hS hpost
    exact W.iret (v := r) hx hb hr (fun t ht hW => ⟨⟨r, (m_pastMany, m_wid, m_hei, m_zz, m_past, m_stk, m_laid), rfl, hpost, by rw [ht]; exact hP, va_K.moved hW.alike hK, hD⟩, hS.F ht⟩) hS.2.2 hdg
  refine lv_aload_n hx hb dX6_ink_0 rfl (lv_at hl 0 rfl) ?_
  refine lv_iload_n hx hb dX6_ink_1 rfl (lv_at hl 1 rfl) ?_
  refine lv_iload_n hx hb dX6_ink_2 rfl (lv_at hl 2 rfl) ?_
  refine lv_iload_n hx hb dX6_ink_3 rfl (lv_at hl 3 rfl) ?_
  have hPc := hP.sub (ws' := [(aM, .inr (5, [.ref aZ, .ref aPast, .int pastMany, .ref aKz, .int isKept, .ref aBuf, .int typed, .ref aStk, .ref aLaid, .int wid, .int hei, .ref aPcs, .ref aTold, .int toldMany, .int spot, .int wrong])), (aZ, .inl (cI, 207, .inl zz)), (aStk, .inl (cI, 64, .inl stk)), (aLaid, .inl (cI, 64, .inl laid))]) [0, 1, 3, 4] rfl
  have hDc := hD.sub (ws' := [(aM, .inr (5, [.ref aZ, .ref aPast, .int pastMany, .ref aKz, .int isKept, .ref aBuf, .int typed, .ref aStk, .ref aLaid, .int wid, .int hei, .ref aPcs, .ref aTold, .int toldMany, .int spot, .int wrong])), (aZ, .inl (cI, 207, .inl zz)), (aStk, .inl (cI, 64, .inl stk)), (aLaid, .inl (cI, 64, .inl laid))]) [0, 1, 3, 4] (by decide) rfl
  have hFc := va_free (wc := [(aM, .inr (5, [.ref aZ, .ref aPast, .int pastMany, .ref aKz, .int isKept, .ref aBuf, .int typed, .ref aStk, .ref aLaid, .int wid, .int hei, .ref aPcs, .ref aTold, .int toldMany, .int spot, .int wrong])), (aZ, .inl (cI, 207, .inl zz)), (aStk, .inl (cI, 64, .inl stk)), (aLaid, .inl (cI, 64, .inl laid))]) hD hS hA [0, 1, 3, 4] rfl
  refine va_calli (va_runV (As := [.int x1, .int x2, .int x3]) (rest := []) ⟨hx, hb, hml, hown, hts⟩ (c_X6_whyNotInk l dC dI cI cC cS aM aZ aPast aKz aBuf aStk aLaid aPcs aTold _ pastMany isKept typed wid hei toldMany spot wrong zz stk laid x1 x2 x3 hq) (cwV 3 hts gX6_ink_X6_whyNotInk rfl rfl rfl (by decide +kernel) ⟨Nat.le_of_ble_eq_true rfl, Nat.le_of_ble_eq_true rfl⟩) (gn_preV hPc hK hN hDc (ci := 5) (q0 := 0) rfl rfl) rfl rfl hl.1 rfl (lv_room (Nat.le_of_ble_eq_true rfl)) dX6_ink_4 ⟨Nat.zero_le _, Nat.zero_le _⟩) hS (fun q _ h => hFc q h) hFc (fun r_1 u t H1 locs ht hvm hq hB hz1 hk1 hS => ?_)
  obtain ⟨wid__2, hei__3, stk__4, laid__5⟩ := u
  obtain ⟨hP1, hK1, hD1⟩ := hB
  rw [ht] at hP1
  try dsimp only at hq
  obtain ⟨hP, hD⟩ := va_join (wr := [(aPast, .inl (cI, 1035, .inl past))]) (w1 := [(aM, .inr (5, [.ref aZ, .ref aPast, .int pastMany, .ref aKz, .int isKept, .ref aBuf, .int typed, .ref aStk, .ref aLaid, .int wid__2, .int hei__3, .ref aPcs, .ref aTold, .int toldMany, .int spot, .int wrong])), (aZ, .inl (cI, 207, .inl zz)), (aStk, .inl (cI, 64, .inl stk__4)), (aLaid, .inl (cI, 64, .inl laid__5))]) hP hD [0, 1, 3, 4] [2] rfl rfl (by decide) (by decide) hk1 hFc hP1 hD1
  have hP := hP.sub (ws' := [(aM, .inr (5, [.ref aZ, .ref aPast, .int pastMany, .ref aKz, .int isKept, .ref aBuf, .int typed, .ref aStk, .ref aLaid, .int wid__2, .int hei__3, .ref aPcs, .ref aTold, .int toldMany, .int spot, .int wrong])), (aZ, .inl (cI, 207, .inl zz)), (aPast, .inl (cI, 1035, .inl past)), (aStk, .inl (cI, 64, .inl stk__4)), (aLaid, .inl (cI, 64, .inl laid__5))]) [1, 2, 0, 3, 4] rfl
  have hD := hD.sub (ws' := [(aM, .inr (5, [.ref aZ, .ref aPast, .int pastMany, .ref aKz, .int isKept, .ref aBuf, .int typed, .ref aStk, .ref aLaid, .int wid__2, .int hei__3, .ref aPcs, .ref aTold, .int toldMany, .int spot, .int wrong])), (aZ, .inl (cI, 207, .inl zz)), (aPast, .inl (cI, 1035, .inl past)), (aStk, .inl (cI, 64, .inl stk__4)), (aLaid, .inl (cI, 64, .inl laid__5))]) [1, 2, 0, 3, 4] (by decide) rfl
  generalize H1 = H at hP hS ⊢
  refine lv_istore (lv' := [(4, .int r_1), (0, .ref aM), (1, .int x1), (2, .int x2), (3, .int x3)]) hx hb dX6_ink_7 hl (by decide) rfl (fun ls hl => ?_)
  refine lv_iload hx hb dX6_ink_9 (lv_at hl 0 rfl) ?_
  refine lv_if_ge (tgt := 17) hx hb dX6_ink_11 (by decide) (fun hc => ?_) (fun hc => ?_)
  · have hq := hq.1 hc
    refine lv_aload_n hx hb dX6_ink_17 rfl (lv_at hl 1 rfl) ?_
    have hPc := hP.sub (ws' := [(aM, .inr (5, [.ref aZ, .ref aPast, .int pastMany, .ref aKz, .int isKept, .ref aBuf, .int typed, .ref aStk, .ref aLaid, .int wid__2, .int hei__3, .ref aPcs, .ref aTold, .int toldMany, .int spot, .int wrong])), (aZ, .inl (cI, 207, .inl zz)), (aPast, .inl (cI, 1035, .inl past))]) [0, 1, 2] rfl
    have hDc := hD.sub (ws' := [(aM, .inr (5, [.ref aZ, .ref aPast, .int pastMany, .ref aKz, .int isKept, .ref aBuf, .int typed, .ref aStk, .ref aLaid, .int wid__2, .int hei__3, .ref aPcs, .ref aTold, .int toldMany, .int spot, .int wrong])), (aZ, .inl (cI, 207, .inl zz)), (aPast, .inl (cI, 1035, .inl past))]) [0, 1, 2] (by decide) rfl
    have hFc := va_free (wc := [(aM, .inr (5, [.ref aZ, .ref aPast, .int pastMany, .ref aKz, .int isKept, .ref aBuf, .int typed, .ref aStk, .ref aLaid, .int wid__2, .int hei__3, .ref aPcs, .ref aTold, .int toldMany, .int spot, .int wrong])), (aZ, .inl (cI, 207, .inl zz)), (aPast, .inl (cI, 1035, .inl past))]) hD hS hA [0, 1, 2] rfl
    refine va_callv (va_runV (As := []) (rest := []) ⟨hx, hb, hml, hown, hts⟩ (c_X6_record l dC dI cI cC cS aM aZ aPast aKz aBuf aStk aLaid aPcs aTold _ pastMany isKept typed wid__2 hei__3 toldMany spot wrong zz past hq) (cwV 0 hts gX6_ink_X6_record rfl rfl rfl (by decide +kernel) ⟨Nat.le_of_ble_eq_true rfl, Nat.le_of_ble_eq_true rfl⟩) (gn_preV hPc hK hN hDc (ci := 5) (q0 := 0) rfl rfl) rfl rfl hl.1 rfl (lv_room (Nat.le_of_ble_eq_true rfl)) dX6_ink_18 ⟨Nat.zero_le _, Nat.zero_le _⟩) hS (fun q _ h => hFc q h) hFc (fun u t H1 locs ht hvm hq hB hz1 hk1 hS => ?_)
    obtain ⟨pastMany__6, past__7⟩ := u
    obtain ⟨hP1, hK1, hD1⟩ := hB
    rw [ht] at hP1
    try dsimp only at hq
    obtain ⟨hP, hD⟩ := va_join (wr := [(aStk, .inl (cI, 64, .inl stk__4)), (aLaid, .inl (cI, 64, .inl laid__5))]) (w1 := [(aM, .inr (5, [.ref aZ, .ref aPast, .int pastMany__6, .ref aKz, .int isKept, .ref aBuf, .int typed, .ref aStk, .ref aLaid, .int wid__2, .int hei__3, .ref aPcs, .ref aTold, .int toldMany, .int spot, .int wrong])), (aZ, .inl (cI, 207, .inl zz)), (aPast, .inl (cI, 1035, .inl past__7))]) hP hD [0, 1, 2] [3, 4] rfl rfl (by decide) (by decide) hk1 hFc hP1 hD1
    have hP := hP.sub (ws' := [(aM, .inr (5, [.ref aZ, .ref aPast, .int pastMany__6, .ref aKz, .int isKept, .ref aBuf, .int typed, .ref aStk, .ref aLaid, .int wid__2, .int hei__3, .ref aPcs, .ref aTold, .int toldMany, .int spot, .int wrong])), (aZ, .inl (cI, 207, .inl zz)), (aPast, .inl (cI, 1035, .inl past__7)), (aStk, .inl (cI, 64, .inl stk__4)), (aLaid, .inl (cI, 64, .inl laid__5))]) [2, 3, 4, 0, 1] rfl
    have hD := hD.sub (ws' := [(aM, .inr (5, [.ref aZ, .ref aPast, .int pastMany__6, .ref aKz, .int isKept, .ref aBuf, .int typed, .ref aStk, .ref aLaid, .int wid__2, .int hei__3, .ref aPcs, .ref aTold, .int toldMany, .int spot, .int wrong])), (aZ, .inl (cI, 207, .inl zz)), (aPast, .inl (cI, 1035, .inl past__7)), (aStk, .inl (cI, 64, .inl stk__4)), (aLaid, .inl (cI, 64, .inl laid__5))]) [2, 3, 4, 0, 1] (by decide) rfl
    generalize H1 = H at hP hS ⊢
    refine lv_aload_n hx hb dX6_ink_21 rfl (lv_at hl 1 rfl) ?_
    refine lv_iload_n hx hb dX6_ink_22 rfl (lv_at hl 2 rfl) ?_
    refine lv_iload_n hx hb dX6_ink_23 rfl (lv_at hl 3 rfl) ?_
    refine lv_iload_n hx hb dX6_ink_24 rfl (lv_at hl 4 rfl) ?_
    have hPc := hP.sub (ws' := [(aM, .inr (5, [.ref aZ, .ref aPast, .int pastMany__6, .ref aKz, .int isKept, .ref aBuf, .int typed, .ref aStk, .ref aLaid, .int wid__2, .int hei__3, .ref aPcs, .ref aTold, .int toldMany, .int spot, .int wrong])), (aZ, .inl (cI, 207, .inl zz)), (aStk, .inl (cI, 64, .inl stk__4)), (aLaid, .inl (cI, 64, .inl laid__5))]) [0, 1, 3, 4] rfl
    have hDc := hD.sub (ws' := [(aM, .inr (5, [.ref aZ, .ref aPast, .int pastMany__6, .ref aKz, .int isKept, .ref aBuf, .int typed, .ref aStk, .ref aLaid, .int wid__2, .int hei__3, .ref aPcs, .ref aTold, .int toldMany, .int spot, .int wrong])), (aZ, .inl (cI, 207, .inl zz)), (aStk, .inl (cI, 64, .inl stk__4)), (aLaid, .inl (cI, 64, .inl laid__5))]) [0, 1, 3, 4] (by decide) rfl
    have hFc := va_free (wc := [(aM, .inr (5, [.ref aZ, .ref aPast, .int pastMany__6, .ref aKz, .int isKept, .ref aBuf, .int typed, .ref aStk, .ref aLaid, .int wid__2, .int hei__3, .ref aPcs, .ref aTold, .int toldMany, .int spot, .int wrong])), (aZ, .inl (cI, 207, .inl zz)), (aStk, .inl (cI, 64, .inl stk__4)), (aLaid, .inl (cI, 64, .inl laid__5))]) hD hS hA [0, 1, 3, 4] rfl
    refine va_calli (va_runV (As := [.int x1, .int x2, .int x3]) (rest := []) ⟨hx, hb, hml, hown, hts⟩ (c_X6_inks l dC dI cI cC cS aM aZ aPast aKz aBuf aStk aLaid aPcs aTold _ pastMany__6 isKept typed wid__2 hei__3 toldMany spot wrong zz stk__4 laid__5 x1 x2 x3 hq) (cwV 3 hts gX6_ink_X6_inks rfl rfl rfl (by decide +kernel) ⟨Nat.le_of_ble_eq_true rfl, Nat.le_of_ble_eq_true rfl⟩) (gn_preV hPc hK hN hDc (ci := 5) (q0 := 0) rfl rfl) rfl rfl hl.1 rfl (lv_room (Nat.le_of_ble_eq_true rfl)) dX6_ink_25 ⟨Nat.zero_le _, Nat.zero_le _⟩) hS (fun q _ h => hFc q h) hFc (fun r_8 u t H1 locs ht hvm hq hB hz1 hk1 hS => ?_)
    obtain ⟨wid__9, hei__10, zz__11, stk__12, laid__13⟩ := u
    obtain ⟨hP1, hK1, hD1⟩ := hB
    rw [ht] at hP1
    try dsimp only at hq
    obtain ⟨hP, hD⟩ := va_join (wr := [(aPast, .inl (cI, 1035, .inl past__7))]) (w1 := [(aM, .inr (5, [.ref aZ, .ref aPast, .int pastMany__6, .ref aKz, .int isKept, .ref aBuf, .int typed, .ref aStk, .ref aLaid, .int wid__9, .int hei__10, .ref aPcs, .ref aTold, .int toldMany, .int spot, .int wrong])), (aZ, .inl (cI, 207, .inl zz__11)), (aStk, .inl (cI, 64, .inl stk__12)), (aLaid, .inl (cI, 64, .inl laid__13))]) hP hD [0, 1, 3, 4] [2] rfl rfl (by decide) (by decide) hk1 hFc hP1 hD1
    have hP := hP.sub (ws' := [(aM, .inr (5, [.ref aZ, .ref aPast, .int pastMany__6, .ref aKz, .int isKept, .ref aBuf, .int typed, .ref aStk, .ref aLaid, .int wid__9, .int hei__10, .ref aPcs, .ref aTold, .int toldMany, .int spot, .int wrong])), (aZ, .inl (cI, 207, .inl zz__11)), (aPast, .inl (cI, 1035, .inl past__7)), (aStk, .inl (cI, 64, .inl stk__12)), (aLaid, .inl (cI, 64, .inl laid__13))]) [1, 2, 0, 3, 4] rfl
    have hD := hD.sub (ws' := [(aM, .inr (5, [.ref aZ, .ref aPast, .int pastMany__6, .ref aKz, .int isKept, .ref aBuf, .int typed, .ref aStk, .ref aLaid, .int wid__9, .int hei__10, .ref aPcs, .ref aTold, .int toldMany, .int spot, .int wrong])), (aZ, .inl (cI, 207, .inl zz__11)), (aPast, .inl (cI, 1035, .inl past__7)), (aStk, .inl (cI, 64, .inl stk__12)), (aLaid, .inl (cI, 64, .inl laid__13))]) [1, 2, 0, 3, 4] (by decide) rfl
    generalize H1 = H at hP hS ⊢
    exact hret _ _ _ _ _ _ _ _ _ _ _ _ dX6_ink_28 hP hD hS hq
  · have hq := hq.2 hc
    refine lv_iload hx hb dX6_ink_14 (lv_at hl 0 rfl) ?_
    exact hret _ _ _ _ _ _ _ _ _ _ _ _ dX6_ink_16 hP hD hS hq
set_option maxRecDepth 20000 in
theorem kwX6_mend_23 : Cond.fieldLink RX6 23 "PunchedFoldsModel" "stacks" "[I" ∈ wsX6_mend := by decide +kernel
set_option maxRecDepth 20000 in
theorem iwX6_mend_X6 : ∀ w ∈ wsX60, w ∈ wsX6_mend := by decide +kernel
set_option maxRecDepth 20000 in
theorem kwX6_mend_7 : Cond.fieldLink RX6 7 "PunchedFoldsModel" "z" "[I" ∈ wsX6_mend := by decide +kernel
set_option maxHeartbeats 4000000 in
set_option maxRecDepth 100000 in
theorem c_X6_mend (l : Launch) (dC : Nat → ClassId) (dI : Nat → Nat → Nat) (cI cC cS : ClassId) (aM : Nat) (aZ : Nat) (aPast : Nat) (aKz : Nat) (aBuf : Nat) (aStk : Nat) (aLaid : Nat) (aPcs : Nat) (aTold : Nat) (sz : Nat) (pastMany : Int32) (isKept : Int32) (typed : Int32) (wid : Int32) (hei : Int32) (toldMany : Int32) (spot : Int32) (wrong : Int32) (zz : Nat → Int32) (past : Nat → Int32) (stk : Nat → Int32) (laid : Nat → Int32) (x1 : Int32) (x2 : Int32) {post : Int32 → Int32 → Int32 → Int32 → (Nat → Int32) → (Nat → Int32) → (Nat → Int32) → (Nat → Int32) → Prop} (hq : wp_X6_mend pastMany wid hei zz past stk laid x1 x2 post) : Met l yX6_mend wsX6_mend ({ frames := 5, cells := 0, slots := 0, locals := 116 } : Room) (gn_Pre (dC, dI) cI cC cS [.ref aM, .int x1, .int x2] sz [(aM, .inr (5, [.ref aZ, .ref aPast, .int pastMany, .ref aKz, .int isKept, .ref aBuf, .int typed, .ref aStk, .ref aLaid, .int wid, .int hei, .ref aPcs, .ref aTold, .int toldMany, .int spot, .int wrong])), (aZ, .inl (cI, 207, .inl zz)), (aPast, .inl (cI, 1035, .inl past)), (aStk, .inl (cI, 64, .inl stk)), (aLaid, .inl (cI, 64, .inl laid))]) (va_Qi (fun (r : Int32) (u : Int32 × Int32 × Int32 × (Nat → Int32) × (Nat → Int32) × (Nat → Int32) × (Nat → Int32)) => post r u.1 u.2.1 u.2.2.1 u.2.2.2.1 u.2.2.2.2.1 u.2.2.2.2.2.1 u.2.2.2.2.2.2) (fun (u : Int32 × Int32 × Int32 × (Nat → Int32) × (Nat → Int32) × (Nat → Int32) × (Nat → Int32)) t => va_P (dC, dI) vwCl [(aM, .inr (5, [.ref aZ, .ref aPast, .int u.1, .ref aKz, .int isKept, .ref aBuf, .int typed, .ref aStk, .ref aLaid, .int u.2.1, .int u.2.2.1, .ref aPcs, .ref aTold, .int toldMany, .int spot, .int wrong])), (aZ, .inl (cI, 207, .inl u.2.2.2.1)), (aPast, .inl (cI, 1035, .inl u.2.2.2.2.1)), (aStk, .inl (cI, 64, .inl u.2.2.2.2.2.1)), (aLaid, .inl (cI, 64, .inl u.2.2.2.2.2.2))] t.heap ∧ va_K (dC, dI) vwCl (gn_tys cI cC cS) t ∧ va_D (va_A [(aM, .inr (5, [.ref aZ, .ref aPast, .int pastMany, .ref aKz, .int isKept, .ref aBuf, .int typed, .ref aStk, .ref aLaid, .int wid, .int hei, .ref aPcs, .ref aTold, .int toldMany, .int spot, .int wrong])), (aZ, .inl (cI, 207, .inl zz)), (aPast, .inl (cI, 1035, .inl past)), (aStk, .inl (cI, 64, .inl stk)), (aLaid, .inl (cI, 64, .inl laid))] sz) [(aM, .inr (5, [.ref aZ, .ref aPast, .int u.1, .ref aKz, .int isKept, .ref aBuf, .int typed, .ref aStk, .ref aLaid, .int u.2.1, .int u.2.2.1, .ref aPcs, .ref aTold, .int toldMany, .int spot, .int wrong])), (aZ, .inl (cI, 207, .inl u.2.2.2.1)), (aPast, .inl (cI, 1035, .inl u.2.2.2.2.1)), (aStk, .inl (cI, 64, .inl u.2.2.2.2.2.1)), (aLaid, .inl (cI, 64, .inl u.2.2.2.2.2.2))]) (va_A [(aM, .inr (5, [.ref aZ, .ref aPast, .int pastMany, .ref aKz, .int isKept, .ref aBuf, .int typed, .ref aStk, .ref aLaid, .int wid, .int hei, .ref aPcs, .ref aTold, .int toldMany, .int spot, .int wrong])), (aZ, .inl (cI, 207, .inl zz)), (aPast, .inl (cI, 1035, .inl past)), (aStk, .inl (cI, 64, .inl stk)), (aLaid, .inl (cI, 64, .inl laid))] sz)) 0 0 (va_A [(aM, .inr (5, [.ref aZ, .ref aPast, .int pastMany, .ref aKz, .int isKept, .ref aBuf, .int typed, .ref aStk, .ref aLaid, .int wid, .int hei, .ref aPcs, .ref aTold, .int toldMany, .int spot, .int wrong])), (aZ, .inl (cI, 207, .inl zz)), (aPast, .inl (cI, 1035, .inl past)), (aStk, .inl (cI, 64, .inl stk)), (aLaid, .inl (cI, 64, .inl laid))] sz) := by
  unfold wp_X6_mend at hq
  refine Met.ofW (cc := cX6_mend) (maxL := 5) (ret := (some .int)) (by decide) rfl ?_
  intro p e s m args below meth c s₁ B hml hv
  obtain ⟨rfl, hsz, hP, hK, hN, hD0⟩ := hv
  have hx := B.exec
  have hb := B.bytes
  have hr := B.returns
  have hts := atoms_spec (ws := wsX6_mend) B.pre
  have hown : s.vm.findClass RX6 = some m.cls := findClass_of_methodNamed B.named
  have hlocks := B.notSynchronized
  subst hsz
  have hD := hD0.self (sz := s.heap.size)
  generalize hAe : va_A [(aM, .inr (5, [.ref aZ, .ref aPast, .int pastMany, .ref aKz, .int isKept, .ref aBuf, .int typed, .ref aStk, .ref aLaid, .int wid, .int hei, .ref aPcs, .ref aTold, .int toldMany, .int spot, .int wrong])), (aZ, .inl (cI, 207, .inl zz)), (aPast, .inl (cI, 1035, .inl past)), (aStk, .inl (cI, 64, .inl stk)), (aLaid, .inl (cI, 64, .inl laid))] s.heap.size = A at hD ⊢
  have hA : ∀ q : Nat, s.heap.size ≤ q → A q := fun q h => by rw [← hAe]; exact Or.inr h
  have hS : va_S A s.heap s.heap [] := va_S.rf
  have hl := lv_entry ([.ref aM, .int x1, .int x2] : List Value) (n := 5) (Nat.le_of_ble_eq_true rfl)
  rw [lg_entry_eq]
  generalize (lg_sl ([.ref aM, .int x1, .int x2] : List Value) ++ List.replicate (5 - (lg_sl ([.ref aM, .int x1, .int x2] : List Value)).length) Slot.unset).toArray = ls at hl ⊢
  have hl : lv_has ls 5 [(0, .ref aM), (1, .int x1), (2, .int x2)] := hl
  refine gn_Q (hret := fun Q => ∀ (pc : Nat) (ls : Array Slot) (H : Heap) (locs : List Loc) (r : Int32) (m_pastMany : Int32) (m_wid : Int32) (m_hei : Int32) (m_zz : Nat → Int32) (m_past : Nat → Int32) (m_stk : Nat → Int32) (m_laid : Nat → Int32), decode cX6_mend pc = .ok (.ireturn, 1) → va_P (dC, dI) vwCl [(aM, .inr (5, [.ref aZ, .ref aPast, .int m_pastMany, .ref aKz, .int isKept, .ref aBuf, .int typed, .ref aStk, .ref aLaid, .int m_wid, .int m_hei, .ref aPcs, .ref aTold, .int toldMany, .int spot, .int wrong])), (aZ, .inl (cI, 207, .inl m_zz)), (aPast, .inl (cI, 1035, .inl m_past)), (aStk, .inl (cI, 64, .inl m_stk)), (aLaid, .inl (cI, 64, .inl m_laid))] H → va_D A [(aM, .inr (5, [.ref aZ, .ref aPast, .int m_pastMany, .ref aKz, .int isKept, .ref aBuf, .int typed, .ref aStk, .ref aLaid, .int m_wid, .int m_hei, .ref aPcs, .ref aTold, .int toldMany, .int spot, .int wrong])), (aZ, .inl (cI, 207, .inl m_zz)), (aPast, .inl (cI, 1035, .inl m_past)), (aStk, .inl (cI, 64, .inl m_stk)), (aLaid, .inl (cI, 64, .inl m_laid))] → va_S A s.heap H locs → post r m_pastMany m_wid m_hei m_zz m_past m_stk m_laid → W p l e ({ frames := 5, cells := 0, slots := 0, locals := 116 } : Room) s m ([.ref aM, .int x1, .int x2] : List Value).toArray below meth c H locs 0 0 Q (F0 m pc ls [.int r])) (fun Q hret => ?_) ?_
  rotate_left
  · intro pc ls H locs r m_pastMany m_wid m_hei m_zz m_past m_stk m_laid hdg hP hD hS hpost
    exact W.iret (v := r) hx hb hr (fun t ht hW => ⟨⟨r, (m_pastMany, m_wid, m_hei, m_zz, m_past, m_stk, m_laid), rfl, hpost, by rw [ht]; exact hP, va_K.moved hW.alike hK, hD⟩, hS.F ht⟩) hS.2.2 hdg
  refine lv_aload_n hx hb dX6_mend_0 rfl (lv_at hl 0 rfl) ?_
  refine lv_iload_n hx hb dX6_mend_1 rfl (lv_at hl 1 rfl) ?_
  refine lv_iload_n hx hb dX6_mend_2 rfl (lv_at hl 2 rfl) ?_
  have hPc := hP.sub (ws' := [(aM, .inr (5, [.ref aZ, .ref aPast, .int pastMany, .ref aKz, .int isKept, .ref aBuf, .int typed, .ref aStk, .ref aLaid, .int wid, .int hei, .ref aPcs, .ref aTold, .int toldMany, .int spot, .int wrong])), (aZ, .inl (cI, 207, .inl zz)), (aStk, .inl (cI, 64, .inl stk)), (aLaid, .inl (cI, 64, .inl laid))]) [0, 1, 3, 4] rfl
  have hDc := hD.sub (ws' := [(aM, .inr (5, [.ref aZ, .ref aPast, .int pastMany, .ref aKz, .int isKept, .ref aBuf, .int typed, .ref aStk, .ref aLaid, .int wid, .int hei, .ref aPcs, .ref aTold, .int toldMany, .int spot, .int wrong])), (aZ, .inl (cI, 207, .inl zz)), (aStk, .inl (cI, 64, .inl stk)), (aLaid, .inl (cI, 64, .inl laid))]) [0, 1, 3, 4] (by decide) rfl
  have hFc := va_free (wc := [(aM, .inr (5, [.ref aZ, .ref aPast, .int pastMany, .ref aKz, .int isKept, .ref aBuf, .int typed, .ref aStk, .ref aLaid, .int wid, .int hei, .ref aPcs, .ref aTold, .int toldMany, .int spot, .int wrong])), (aZ, .inl (cI, 207, .inl zz)), (aStk, .inl (cI, 64, .inl stk)), (aLaid, .inl (cI, 64, .inl laid))]) hD hS hA [0, 1, 3, 4] rfl
  refine va_calli (va_runV (As := [.int x1, .int x2]) (rest := []) ⟨hx, hb, hml, hown, hts⟩ (c_X6_top l dC dI cI cC cS aM aZ aPast aKz aBuf aStk aLaid aPcs aTold _ pastMany isKept typed wid hei toldMany spot wrong zz stk laid x1 x2 hq) (cwV 2 hts gX6_mend_X6_top rfl rfl rfl (by decide +kernel) ⟨Nat.le_of_ble_eq_true rfl, Nat.le_of_ble_eq_true rfl⟩) (gn_preV hPc hK hN hDc (ci := 5) (q0 := 0) rfl rfl) rfl rfl hl.1 rfl (lv_room (Nat.le_of_ble_eq_true rfl)) dX6_mend_3 ⟨Nat.zero_le _, Nat.zero_le _⟩) hS (fun q _ h => hFc q h) hFc (fun r_1 u t H1 locs ht hvm hq hB hz1 hk1 hS => ?_)
  obtain ⟨wid__2, hei__3, stk__4, laid__5⟩ := u
  obtain ⟨hP1, hK1, hD1⟩ := hB
  rw [ht] at hP1
  try dsimp only at hq
  obtain ⟨hP, hD⟩ := va_join (wr := [(aPast, .inl (cI, 1035, .inl past))]) (w1 := [(aM, .inr (5, [.ref aZ, .ref aPast, .int pastMany, .ref aKz, .int isKept, .ref aBuf, .int typed, .ref aStk, .ref aLaid, .int wid__2, .int hei__3, .ref aPcs, .ref aTold, .int toldMany, .int spot, .int wrong])), (aZ, .inl (cI, 207, .inl zz)), (aStk, .inl (cI, 64, .inl stk__4)), (aLaid, .inl (cI, 64, .inl laid__5))]) hP hD [0, 1, 3, 4] [2] rfl rfl (by decide) (by decide) hk1 hFc hP1 hD1
  have hP := hP.sub (ws' := [(aM, .inr (5, [.ref aZ, .ref aPast, .int pastMany, .ref aKz, .int isKept, .ref aBuf, .int typed, .ref aStk, .ref aLaid, .int wid__2, .int hei__3, .ref aPcs, .ref aTold, .int toldMany, .int spot, .int wrong])), (aZ, .inl (cI, 207, .inl zz)), (aPast, .inl (cI, 1035, .inl past)), (aStk, .inl (cI, 64, .inl stk__4)), (aLaid, .inl (cI, 64, .inl laid__5))]) [1, 2, 0, 3, 4] rfl
  have hD := hD.sub (ws' := [(aM, .inr (5, [.ref aZ, .ref aPast, .int pastMany, .ref aKz, .int isKept, .ref aBuf, .int typed, .ref aStk, .ref aLaid, .int wid__2, .int hei__3, .ref aPcs, .ref aTold, .int toldMany, .int spot, .int wrong])), (aZ, .inl (cI, 207, .inl zz)), (aPast, .inl (cI, 1035, .inl past)), (aStk, .inl (cI, 64, .inl stk__4)), (aLaid, .inl (cI, 64, .inl laid__5))]) [1, 2, 0, 3, 4] (by decide) rfl
  generalize H1 = H at hP hS ⊢
  refine lv_istore_n (lv' := [(3, .int r_1), (0, .ref aM), (1, .int x1), (2, .int x2)]) hx hb dX6_mend_6 rfl hl (by decide) rfl (fun ls hl => ?_)
  refine lv_iload_n hx hb dX6_mend_7 rfl (lv_at hl 0 rfl) ?_
  refine lv_bipush (v := -6) hx hb dX6_mend_8 (by decide) ?_
  refine lv_icmp_ne (tgt := 15) hx hb dX6_mend_10 (by decide) (fun hc => ?_) (fun hc => ?_)
  · have hq := hq.1 hc
    refine lv_aload_n hx hb dX6_mend_15 rfl (lv_at hl 1 rfl) ?_
    refine va_get (D := (dC, dI)) (ci := 5) (v := .ref aStk) (C := RX6) (T := TX6) (N := 16) hx hb hts iwX6_mend_X6 hown hK hP 0 rfl rfl 7 (by decide) (hts _ kwX6_mend_23) (fun _ h9 => h9) rfl dX6_mend_16 ?_
    refine lv_iload_n hx hb dX6_mend_19 rfl (lv_at hl 0 rfl) ?_
    have hin := hq.1
    have hq := hq.2
    refine va_iald hx hb hK hP 3 0 rfl rfl hin dX6_mend_20 ?_
    refine lv_iconst (v := 2) hx hb dX6_mend_21 (by decide) ?_
    refine lv_idiv hx hb dX6_mend_22 (by decide) ?_
    refine lv_topi (fun w4_6 ew4_6 => ?_)
    have hq := hq w4_6 ew4_6
    refine lv_istore (lv' := [(4, .int w4_6), (3, .int r_1), (0, .ref aM), (1, .int x1), (2, .int x2)]) hx hb dX6_mend_23 hl (by decide) rfl (fun ls hl => ?_)
    refine lv_aload_n hx hb dX6_mend_25 rfl (lv_at hl 2 rfl) ?_
    refine va_get (D := (dC, dI)) (ci := 5) (v := .ref aZ) (C := RX6) (T := TX6) (N := 16) hx hb hts iwX6_mend_X6 hown hK hP 0 rfl rfl 0 (by decide) (hts _ kwX6_mend_7) (fun _ h9 => h9) rfl dX6_mend_26 ?_
    refine lv_bipush (v := 7) hx hb dX6_mend_29 (by decide) ?_
    refine lv_iload hx hb dX6_mend_31 (lv_at hl 0 rfl) ?_
    refine lv_iadd hx hb dX6_mend_33 ?_
    have hin := hq.1
    have hq := hq.2
    refine va_iald hx hb hK hP 1 0 rfl rfl hin dX6_mend_34 ?_
    refine lv_if_ne (tgt := 41) hx hb dX6_mend_35 (by decide) (fun hc => ?_) (fun hc => ?_)
    · have hq := hq.1 hc
      refine lv_aload_n hx hb dX6_mend_41 rfl (lv_at hl 2 rfl) ?_
      have hPc := hP.sub (ws' := [(aM, .inr (5, [.ref aZ, .ref aPast, .int pastMany, .ref aKz, .int isKept, .ref aBuf, .int typed, .ref aStk, .ref aLaid, .int wid__2, .int hei__3, .ref aPcs, .ref aTold, .int toldMany, .int spot, .int wrong])), (aZ, .inl (cI, 207, .inl zz)), (aPast, .inl (cI, 1035, .inl past))]) [0, 1, 2] rfl
      have hDc := hD.sub (ws' := [(aM, .inr (5, [.ref aZ, .ref aPast, .int pastMany, .ref aKz, .int isKept, .ref aBuf, .int typed, .ref aStk, .ref aLaid, .int wid__2, .int hei__3, .ref aPcs, .ref aTold, .int toldMany, .int spot, .int wrong])), (aZ, .inl (cI, 207, .inl zz)), (aPast, .inl (cI, 1035, .inl past))]) [0, 1, 2] (by decide) rfl
      have hFc := va_free (wc := [(aM, .inr (5, [.ref aZ, .ref aPast, .int pastMany, .ref aKz, .int isKept, .ref aBuf, .int typed, .ref aStk, .ref aLaid, .int wid__2, .int hei__3, .ref aPcs, .ref aTold, .int toldMany, .int spot, .int wrong])), (aZ, .inl (cI, 207, .inl zz)), (aPast, .inl (cI, 1035, .inl past))]) hD hS hA [0, 1, 2] rfl
      refine va_callv (va_runV (As := []) (rest := []) ⟨hx, hb, hml, hown, hts⟩ (c_X6_record l dC dI cI cC cS aM aZ aPast aKz aBuf aStk aLaid aPcs aTold _ pastMany isKept typed wid__2 hei__3 toldMany spot wrong zz past hq) (cwV 0 hts gX6_mend_X6_record rfl rfl rfl (by decide +kernel) ⟨Nat.le_of_ble_eq_true rfl, Nat.le_of_ble_eq_true rfl⟩) (gn_preV hPc hK hN hDc (ci := 5) (q0 := 0) rfl rfl) rfl rfl hl.1 rfl (lv_room (Nat.le_of_ble_eq_true rfl)) dX6_mend_42 ⟨Nat.zero_le _, Nat.zero_le _⟩) hS (fun q _ h => hFc q h) hFc (fun u t H1 locs ht hvm hq hB hz1 hk1 hS => ?_)
      obtain ⟨pastMany__7, past__8⟩ := u
      obtain ⟨hP1, hK1, hD1⟩ := hB
      rw [ht] at hP1
      try dsimp only at hq
      obtain ⟨hP, hD⟩ := va_join (wr := [(aStk, .inl (cI, 64, .inl stk__4)), (aLaid, .inl (cI, 64, .inl laid__5))]) (w1 := [(aM, .inr (5, [.ref aZ, .ref aPast, .int pastMany__7, .ref aKz, .int isKept, .ref aBuf, .int typed, .ref aStk, .ref aLaid, .int wid__2, .int hei__3, .ref aPcs, .ref aTold, .int toldMany, .int spot, .int wrong])), (aZ, .inl (cI, 207, .inl zz)), (aPast, .inl (cI, 1035, .inl past__8))]) hP hD [0, 1, 2] [3, 4] rfl rfl (by decide) (by decide) hk1 hFc hP1 hD1
      have hP := hP.sub (ws' := [(aM, .inr (5, [.ref aZ, .ref aPast, .int pastMany__7, .ref aKz, .int isKept, .ref aBuf, .int typed, .ref aStk, .ref aLaid, .int wid__2, .int hei__3, .ref aPcs, .ref aTold, .int toldMany, .int spot, .int wrong])), (aZ, .inl (cI, 207, .inl zz)), (aPast, .inl (cI, 1035, .inl past__8)), (aStk, .inl (cI, 64, .inl stk__4)), (aLaid, .inl (cI, 64, .inl laid__5))]) [2, 3, 4, 0, 1] rfl
      have hD := hD.sub (ws' := [(aM, .inr (5, [.ref aZ, .ref aPast, .int pastMany__7, .ref aKz, .int isKept, .ref aBuf, .int typed, .ref aStk, .ref aLaid, .int wid__2, .int hei__3, .ref aPcs, .ref aTold, .int toldMany, .int spot, .int wrong])), (aZ, .inl (cI, 207, .inl zz)), (aPast, .inl (cI, 1035, .inl past__8)), (aStk, .inl (cI, 64, .inl stk__4)), (aLaid, .inl (cI, 64, .inl laid__5))]) [2, 3, 4, 0, 1] (by decide) rfl
      generalize H1 = H at hP hS ⊢
      refine lv_aload_n hx hb dX6_mend_45 rfl (lv_at hl 2 rfl) ?_
      refine va_get (D := (dC, dI)) (ci := 5) (v := .ref aZ) (C := RX6) (T := TX6) (N := 16) hx hb hts iwX6_mend_X6 hown hK hP 0 rfl rfl 0 (by decide) (hts _ kwX6_mend_7) (fun _ h9 => h9) rfl dX6_mend_46 ?_
      refine lv_bipush (v := 7) hx hb dX6_mend_49 (by decide) ?_
      refine lv_iload hx hb dX6_mend_51 (lv_at hl 0 rfl) ?_
      refine lv_iadd hx hb dX6_mend_53 ?_
      refine lv_iconst (v := 0) hx hb dX6_mend_54 (by decide) ?_
      have hin := hq.1
      have hq := hq.2
      refine va_iast hx hb hK hP hD hS 1 0 rfl rfl hin dX6_mend_55 (fun H locs hP hD hS => ?_)
      have hP : va_P (dC, dI) vwCl [(aM, .inr (5, [.ref aZ, .ref aPast, .int pastMany__7, .ref aKz, .int isKept, .ref aBuf, .int typed, .ref aStk, .ref aLaid, .int wid__2, .int hei__3, .ref aPcs, .ref aTold, .int toldMany, .int spot, .int wrong])), (aZ, .inl (cI, 207, .inl (upd zz (((7 : Int32) + w4_6)).toNatClampNeg (0 : Int32)))), (aPast, .inl (cI, 1035, .inl past__8)), (aStk, .inl (cI, 64, .inl stk__4)), (aLaid, .inl (cI, 64, .inl laid__5))] H := hP
      have hD : va_D A [(aM, .inr (5, [.ref aZ, .ref aPast, .int pastMany__7, .ref aKz, .int isKept, .ref aBuf, .int typed, .ref aStk, .ref aLaid, .int wid__2, .int hei__3, .ref aPcs, .ref aTold, .int toldMany, .int spot, .int wrong])), (aZ, .inl (cI, 207, .inl (upd zz (((7 : Int32) + w4_6)).toNatClampNeg (0 : Int32)))), (aPast, .inl (cI, 1035, .inl past__8)), (aStk, .inl (cI, 64, .inl stk__4)), (aLaid, .inl (cI, 64, .inl laid__5))] := hD
      refine lv_aload_n hx hb dX6_mend_56 rfl (lv_at hl 2 rfl) ?_
      refine va_get (D := (dC, dI)) (ci := 5) (v := .ref aZ) (C := RX6) (T := TX6) (N := 16) hx hb hts iwX6_mend_X6 hown hK hP 0 rfl rfl 0 (by decide) (hts _ kwX6_mend_7) (fun _ h9 => h9) rfl dX6_mend_57 ?_
      refine lv_bipush (v := 71) hx hb dX6_mend_60 (by decide) ?_
      refine lv_iconst (v := 2) hx hb dX6_mend_62 (by decide) ?_
      refine lv_iload hx hb dX6_mend_63 (lv_at hl 0 rfl) ?_
      refine lv_imul hx hb dX6_mend_65 ?_
      refine lv_iadd hx hb dX6_mend_66 ?_
      refine lv_iconst (v := 0) hx hb dX6_mend_67 (by decide) ?_
      have hin := hq.1
      have hq := hq.2
      refine va_iast hx hb hK hP hD hS 1 0 rfl rfl hin dX6_mend_68 (fun H locs hP hD hS => ?_)
      have hP : va_P (dC, dI) vwCl [(aM, .inr (5, [.ref aZ, .ref aPast, .int pastMany__7, .ref aKz, .int isKept, .ref aBuf, .int typed, .ref aStk, .ref aLaid, .int wid__2, .int hei__3, .ref aPcs, .ref aTold, .int toldMany, .int spot, .int wrong])), (aZ, .inl (cI, 207, .inl (upd (upd zz (((7 : Int32) + w4_6)).toNatClampNeg (0 : Int32)) (((71 : Int32) + ((2 : Int32) * w4_6))).toNatClampNeg (0 : Int32)))), (aPast, .inl (cI, 1035, .inl past__8)), (aStk, .inl (cI, 64, .inl stk__4)), (aLaid, .inl (cI, 64, .inl laid__5))] H := hP
      have hD : va_D A [(aM, .inr (5, [.ref aZ, .ref aPast, .int pastMany__7, .ref aKz, .int isKept, .ref aBuf, .int typed, .ref aStk, .ref aLaid, .int wid__2, .int hei__3, .ref aPcs, .ref aTold, .int toldMany, .int spot, .int wrong])), (aZ, .inl (cI, 207, .inl (upd (upd zz (((7 : Int32) + w4_6)).toNatClampNeg (0 : Int32)) (((71 : Int32) + ((2 : Int32) * w4_6))).toNatClampNeg (0 : Int32)))), (aPast, .inl (cI, 1035, .inl past__8)), (aStk, .inl (cI, 64, .inl stk__4)), (aLaid, .inl (cI, 64, .inl laid__5))] := hD
      refine lv_aload_n hx hb dX6_mend_69 rfl (lv_at hl 2 rfl) ?_
      refine va_get (D := (dC, dI)) (ci := 5) (v := .ref aZ) (C := RX6) (T := TX6) (N := 16) hx hb hts iwX6_mend_X6 hown hK hP 0 rfl rfl 0 (by decide) (hts _ kwX6_mend_7) (fun _ h9 => h9) rfl dX6_mend_70 ?_
      refine lv_bipush (v := 71) hx hb dX6_mend_73 (by decide) ?_
      refine lv_iconst (v := 2) hx hb dX6_mend_75 (by decide) ?_
      refine lv_iload hx hb dX6_mend_76 (lv_at hl 0 rfl) ?_
      refine lv_imul hx hb dX6_mend_78 ?_
      refine lv_iadd hx hb dX6_mend_79 ?_
      refine lv_iconst (v := 1) hx hb dX6_mend_80 (by decide) ?_
      refine lv_iadd hx hb dX6_mend_81 ?_
      refine lv_iconst (v := 0) hx hb dX6_mend_82 (by decide) ?_
      have hin := hq.1
      have hq := hq.2
      refine va_iast hx hb hK hP hD hS 1 0 rfl rfl hin dX6_mend_83 (fun H locs hP hD hS => ?_)
      have hP : va_P (dC, dI) vwCl [(aM, .inr (5, [.ref aZ, .ref aPast, .int pastMany__7, .ref aKz, .int isKept, .ref aBuf, .int typed, .ref aStk, .ref aLaid, .int wid__2, .int hei__3, .ref aPcs, .ref aTold, .int toldMany, .int spot, .int wrong])), (aZ, .inl (cI, 207, .inl (upd (upd (upd zz (((7 : Int32) + w4_6)).toNatClampNeg (0 : Int32)) (((71 : Int32) + ((2 : Int32) * w4_6))).toNatClampNeg (0 : Int32)) ((((71 : Int32) + ((2 : Int32) * w4_6)) + (1 : Int32))).toNatClampNeg (0 : Int32)))), (aPast, .inl (cI, 1035, .inl past__8)), (aStk, .inl (cI, 64, .inl stk__4)), (aLaid, .inl (cI, 64, .inl laid__5))] H := hP
      have hD : va_D A [(aM, .inr (5, [.ref aZ, .ref aPast, .int pastMany__7, .ref aKz, .int isKept, .ref aBuf, .int typed, .ref aStk, .ref aLaid, .int wid__2, .int hei__3, .ref aPcs, .ref aTold, .int toldMany, .int spot, .int wrong])), (aZ, .inl (cI, 207, .inl (upd (upd (upd zz (((7 : Int32) + w4_6)).toNatClampNeg (0 : Int32)) (((71 : Int32) + ((2 : Int32) * w4_6))).toNatClampNeg (0 : Int32)) ((((71 : Int32) + ((2 : Int32) * w4_6)) + (1 : Int32))).toNatClampNeg (0 : Int32)))), (aPast, .inl (cI, 1035, .inl past__8)), (aStk, .inl (cI, 64, .inl stk__4)), (aLaid, .inl (cI, 64, .inl laid__5))] := hD
      refine lv_iload hx hb dX6_mend_84 (lv_at hl 0 rfl) ?_
      exact hret _ _ _ _ _ _ _ _ _ _ _ _ dX6_mend_86 hP hD hS hq
    · have hq := hq.2 hc
      refine lv_bipush (v := -3) hx hb dX6_mend_38 (by decide) ?_
      exact hret _ _ _ _ _ _ _ _ _ _ _ _ dX6_mend_40 hP hD hS hq
  · have hq := hq.2 hc
    refine lv_iconst (v := -1) hx hb dX6_mend_13 (by decide) ?_
    exact hret _ _ _ _ _ _ _ _ _ _ _ _ dX6_mend_14 hP hD hS hq
set_option maxRecDepth 20000 in
theorem kwX6_layer_23 : Cond.fieldLink RX6 23 "PunchedFoldsModel" "stacks" "[I" ∈ wsX6_layer := by decide +kernel
set_option maxRecDepth 20000 in
theorem iwX6_layer_X6 : ∀ w ∈ wsX60, w ∈ wsX6_layer := by decide +kernel
set_option maxRecDepth 20000 in
theorem kwX6_layer_7 : Cond.fieldLink RX6 7 "PunchedFoldsModel" "z" "[I" ∈ wsX6_layer := by decide +kernel
set_option maxHeartbeats 4000000 in
set_option maxRecDepth 100000 in
theorem c_X6_layer (l : Launch) (dC : Nat → ClassId) (dI : Nat → Nat → Nat) (cI cC cS : ClassId) (aM : Nat) (aZ : Nat) (aPast : Nat) (aKz : Nat) (aBuf : Nat) (aStk : Nat) (aLaid : Nat) (aPcs : Nat) (aTold : Nat) (sz : Nat) (pastMany : Int32) (isKept : Int32) (typed : Int32) (wid : Int32) (hei : Int32) (toldMany : Int32) (spot : Int32) (wrong : Int32) (zz : Nat → Int32) (stk : Nat → Int32) (laid : Nat → Int32) (x1 : Int32) (x2 : Int32) (x3 : Int32) (x4 : Int32) {post : Int32 → Int32 → Int32 → (Nat → Int32) → (Nat → Int32) → Prop} (hq : wp_X6_layer wid hei zz stk laid x1 x2 x3 x4 post) : Met l yX6_layer wsX6_layer ({ frames := 5, cells := 0, slots := 0, locals := 116 } : Room) (gn_Pre (dC, dI) cI cC cS [.ref aM, .int x1, .int x2, .int x3, .int x4] sz [(aM, .inr (5, [.ref aZ, .ref aPast, .int pastMany, .ref aKz, .int isKept, .ref aBuf, .int typed, .ref aStk, .ref aLaid, .int wid, .int hei, .ref aPcs, .ref aTold, .int toldMany, .int spot, .int wrong])), (aZ, .inl (cI, 207, .inl zz)), (aStk, .inl (cI, 64, .inl stk)), (aLaid, .inl (cI, 64, .inl laid))]) (va_Qi (fun (r : Int32) (u : Int32 × Int32 × (Nat → Int32) × (Nat → Int32)) => post r u.1 u.2.1 u.2.2.1 u.2.2.2) (fun (u : Int32 × Int32 × (Nat → Int32) × (Nat → Int32)) t => va_P (dC, dI) vwCl [(aM, .inr (5, [.ref aZ, .ref aPast, .int pastMany, .ref aKz, .int isKept, .ref aBuf, .int typed, .ref aStk, .ref aLaid, .int u.1, .int u.2.1, .ref aPcs, .ref aTold, .int toldMany, .int spot, .int wrong])), (aZ, .inl (cI, 207, .inl zz)), (aStk, .inl (cI, 64, .inl u.2.2.1)), (aLaid, .inl (cI, 64, .inl u.2.2.2))] t.heap ∧ va_K (dC, dI) vwCl (gn_tys cI cC cS) t ∧ va_D (va_A [(aM, .inr (5, [.ref aZ, .ref aPast, .int pastMany, .ref aKz, .int isKept, .ref aBuf, .int typed, .ref aStk, .ref aLaid, .int wid, .int hei, .ref aPcs, .ref aTold, .int toldMany, .int spot, .int wrong])), (aZ, .inl (cI, 207, .inl zz)), (aStk, .inl (cI, 64, .inl stk)), (aLaid, .inl (cI, 64, .inl laid))] sz) [(aM, .inr (5, [.ref aZ, .ref aPast, .int pastMany, .ref aKz, .int isKept, .ref aBuf, .int typed, .ref aStk, .ref aLaid, .int u.1, .int u.2.1, .ref aPcs, .ref aTold, .int toldMany, .int spot, .int wrong])), (aZ, .inl (cI, 207, .inl zz)), (aStk, .inl (cI, 64, .inl u.2.2.1)), (aLaid, .inl (cI, 64, .inl u.2.2.2))]) (va_A [(aM, .inr (5, [.ref aZ, .ref aPast, .int pastMany, .ref aKz, .int isKept, .ref aBuf, .int typed, .ref aStk, .ref aLaid, .int wid, .int hei, .ref aPcs, .ref aTold, .int toldMany, .int spot, .int wrong])), (aZ, .inl (cI, 207, .inl zz)), (aStk, .inl (cI, 64, .inl stk)), (aLaid, .inl (cI, 64, .inl laid))] sz)) 0 0 (va_A [(aM, .inr (5, [.ref aZ, .ref aPast, .int pastMany, .ref aKz, .int isKept, .ref aBuf, .int typed, .ref aStk, .ref aLaid, .int wid, .int hei, .ref aPcs, .ref aTold, .int toldMany, .int spot, .int wrong])), (aZ, .inl (cI, 207, .inl zz)), (aStk, .inl (cI, 64, .inl stk)), (aLaid, .inl (cI, 64, .inl laid))] sz) := by
  unfold wp_X6_layer at hq
  refine Met.ofW (cc := cX6_layer) (maxL := 7) (ret := (some .int)) (by decide) rfl ?_
  intro p e s m args below meth c s₁ B hml hv
  obtain ⟨rfl, hsz, hP, hK, hN, hD0⟩ := hv
  have hx := B.exec
  have hb := B.bytes
  have hr := B.returns
  have hts := atoms_spec (ws := wsX6_layer) B.pre
  have hown : s.vm.findClass RX6 = some m.cls := findClass_of_methodNamed B.named
  have hlocks := B.notSynchronized
  subst hsz
  have hD := hD0.self (sz := s.heap.size)
  generalize hAe : va_A [(aM, .inr (5, [.ref aZ, .ref aPast, .int pastMany, .ref aKz, .int isKept, .ref aBuf, .int typed, .ref aStk, .ref aLaid, .int wid, .int hei, .ref aPcs, .ref aTold, .int toldMany, .int spot, .int wrong])), (aZ, .inl (cI, 207, .inl zz)), (aStk, .inl (cI, 64, .inl stk)), (aLaid, .inl (cI, 64, .inl laid))] s.heap.size = A at hD ⊢
  have hA : ∀ q : Nat, s.heap.size ≤ q → A q := fun q h => by rw [← hAe]; exact Or.inr h
  have hS : va_S A s.heap s.heap [] := va_S.rf
  have hl := lv_entry ([.ref aM, .int x1, .int x2, .int x3, .int x4] : List Value) (n := 7) (Nat.le_of_ble_eq_true rfl)
  rw [lg_entry_eq]
  generalize (lg_sl ([.ref aM, .int x1, .int x2, .int x3, .int x4] : List Value) ++ List.replicate (7 - (lg_sl ([.ref aM, .int x1, .int x2, .int x3, .int x4] : List Value)).length) Slot.unset).toArray = ls at hl ⊢
  have hl : lv_has ls 7 [(0, .ref aM), (1, .int x1), (2, .int x2), (3, .int x3), (4, .int x4)] := hl
  refine gn_Q (hret := fun Q => ∀ (pc : Nat) (ls : Array Slot) (H : Heap) (locs : List Loc) (r : Int32) (m_wid : Int32) (m_hei : Int32) (m_stk : Nat → Int32) (m_laid : Nat → Int32), decode cX6_layer pc = .ok (.ireturn, 1) → va_P (dC, dI) vwCl [(aM, .inr (5, [.ref aZ, .ref aPast, .int pastMany, .ref aKz, .int isKept, .ref aBuf, .int typed, .ref aStk, .ref aLaid, .int m_wid, .int m_hei, .ref aPcs, .ref aTold, .int toldMany, .int spot, .int wrong])), (aZ, .inl (cI, 207, .inl zz)), (aStk, .inl (cI, 64, .inl m_stk)), (aLaid, .inl (cI, 64, .inl m_laid))] H → va_D A [(aM, .inr (5, [.ref aZ, .ref aPast, .int pastMany, .ref aKz, .int isKept, .ref aBuf, .int typed, .ref aStk, .ref aLaid, .int m_wid, .int m_hei, .ref aPcs, .ref aTold, .int toldMany, .int spot, .int wrong])), (aZ, .inl (cI, 207, .inl zz)), (aStk, .inl (cI, 64, .inl m_stk)), (aLaid, .inl (cI, 64, .inl m_laid))] → va_S A s.heap H locs → post r m_wid m_hei m_stk m_laid → W p l e ({ frames := 5, cells := 0, slots := 0, locals := 116 } : Room) s m ([.ref aM, .int x1, .int x2, .int x3, .int x4] : List Value).toArray below meth c H locs 0 0 Q (F0 m pc ls [.int r])) (fun Q hret => ?_) ?_
  rotate_left
  · intro pc ls H locs r m_wid m_hei m_stk m_laid hdg hP hD hS hpost
    exact W.iret (v := r) hx hb hr (fun t ht hW => ⟨⟨r, (m_wid, m_hei, m_stk, m_laid), rfl, hpost, by rw [ht]; exact hP, va_K.moved hW.alike hK, hD⟩, hS.F ht⟩) hS.2.2 hdg
  refine lv_aload_n hx hb dX6_layer_0 rfl (lv_at hl 0 rfl) ?_
  refine lv_iload_n hx hb dX6_layer_1 rfl (lv_at hl 1 rfl) ?_
  refine lv_iload_n hx hb dX6_layer_2 rfl (lv_at hl 2 rfl) ?_
  have hPc := hP.sub (ws' := [(aM, .inr (5, [.ref aZ, .ref aPast, .int pastMany, .ref aKz, .int isKept, .ref aBuf, .int typed, .ref aStk, .ref aLaid, .int wid, .int hei, .ref aPcs, .ref aTold, .int toldMany, .int spot, .int wrong])), (aZ, .inl (cI, 207, .inl zz)), (aStk, .inl (cI, 64, .inl stk)), (aLaid, .inl (cI, 64, .inl laid))]) [0, 1, 2, 3] rfl
  have hDc := hD.sub (ws' := [(aM, .inr (5, [.ref aZ, .ref aPast, .int pastMany, .ref aKz, .int isKept, .ref aBuf, .int typed, .ref aStk, .ref aLaid, .int wid, .int hei, .ref aPcs, .ref aTold, .int toldMany, .int spot, .int wrong])), (aZ, .inl (cI, 207, .inl zz)), (aStk, .inl (cI, 64, .inl stk)), (aLaid, .inl (cI, 64, .inl laid))]) [0, 1, 2, 3] (by decide) rfl
  have hFc := va_free (wc := [(aM, .inr (5, [.ref aZ, .ref aPast, .int pastMany, .ref aKz, .int isKept, .ref aBuf, .int typed, .ref aStk, .ref aLaid, .int wid, .int hei, .ref aPcs, .ref aTold, .int toldMany, .int spot, .int wrong])), (aZ, .inl (cI, 207, .inl zz)), (aStk, .inl (cI, 64, .inl stk)), (aLaid, .inl (cI, 64, .inl laid))]) hD hS hA [0, 1, 2, 3] rfl
  refine va_calli (va_runV (As := [.int x1, .int x2]) (rest := []) ⟨hx, hb, hml, hown, hts⟩ (c_X6_top l dC dI cI cC cS aM aZ aPast aKz aBuf aStk aLaid aPcs aTold _ pastMany isKept typed wid hei toldMany spot wrong zz stk laid x1 x2 hq) (cwV 2 hts gX6_layer_X6_top rfl rfl rfl (by decide +kernel) ⟨Nat.le_of_ble_eq_true rfl, Nat.le_of_ble_eq_true rfl⟩) (gn_preV hPc hK hN hDc (ci := 5) (q0 := 0) rfl rfl) rfl rfl hl.1 rfl (lv_room (Nat.le_of_ble_eq_true rfl)) dX6_layer_3 ⟨Nat.zero_le _, Nat.zero_le _⟩) hS (fun q _ h => hFc q h) hFc (fun r_1 u t H1 locs ht hvm hq hB hz1 hk1 hS => ?_)
  obtain ⟨wid__2, hei__3, stk__4, laid__5⟩ := u
  obtain ⟨hP1, hK1, hD1⟩ := hB
  rw [ht] at hP1
  try dsimp only at hq
  obtain ⟨hP, hD⟩ := va_join (wr := []) (w1 := [(aM, .inr (5, [.ref aZ, .ref aPast, .int pastMany, .ref aKz, .int isKept, .ref aBuf, .int typed, .ref aStk, .ref aLaid, .int wid__2, .int hei__3, .ref aPcs, .ref aTold, .int toldMany, .int spot, .int wrong])), (aZ, .inl (cI, 207, .inl zz)), (aStk, .inl (cI, 64, .inl stk__4)), (aLaid, .inl (cI, 64, .inl laid__5))]) hP hD [0, 1, 2, 3] [] rfl rfl (by decide) (by decide) hk1 hFc hP1 hD1
  have hP := hP.sub (ws' := [(aM, .inr (5, [.ref aZ, .ref aPast, .int pastMany, .ref aKz, .int isKept, .ref aBuf, .int typed, .ref aStk, .ref aLaid, .int wid__2, .int hei__3, .ref aPcs, .ref aTold, .int toldMany, .int spot, .int wrong])), (aZ, .inl (cI, 207, .inl zz)), (aStk, .inl (cI, 64, .inl stk__4)), (aLaid, .inl (cI, 64, .inl laid__5))]) [0, 1, 2, 3] rfl
  have hD := hD.sub (ws' := [(aM, .inr (5, [.ref aZ, .ref aPast, .int pastMany, .ref aKz, .int isKept, .ref aBuf, .int typed, .ref aStk, .ref aLaid, .int wid__2, .int hei__3, .ref aPcs, .ref aTold, .int toldMany, .int spot, .int wrong])), (aZ, .inl (cI, 207, .inl zz)), (aStk, .inl (cI, 64, .inl stk__4)), (aLaid, .inl (cI, 64, .inl laid__5))]) [0, 1, 2, 3] (by decide) rfl
  generalize H1 = H at hP hS ⊢
  refine lv_istore (lv' := [(5, .int r_1), (0, .ref aM), (1, .int x1), (2, .int x2), (3, .int x3), (4, .int x4)]) hx hb dX6_layer_6 hl (by decide) rfl (fun ls hl => ?_)
  refine lv_iload hx hb dX6_layer_8 (lv_at hl 0 rfl) ?_
  refine lv_bipush (v := -6) hx hb dX6_layer_10 (by decide) ?_
  have hq := hq (∀ (H : Heap) (locs : List Loc) (ls : Array Slot), va_P (dC, dI) vwCl [(aM, .inr (5, [.ref aZ, .ref aPast, .int pastMany, .ref aKz, .int isKept, .ref aBuf, .int typed, .ref aStk, .ref aLaid, .int wid__2, .int hei__3, .ref aPcs, .ref aTold, .int toldMany, .int spot, .int wrong])), (aZ, .inl (cI, 207, .inl zz)), (aStk, .inl (cI, 64, .inl stk__4)), (aLaid, .inl (cI, 64, .inl laid__5))] H → va_D A [(aM, .inr (5, [.ref aZ, .ref aPast, .int pastMany, .ref aKz, .int isKept, .ref aBuf, .int typed, .ref aStk, .ref aLaid, .int wid__2, .int hei__3, .ref aPcs, .ref aTold, .int toldMany, .int spot, .int wrong])), (aZ, .inl (cI, 207, .inl zz)), (aStk, .inl (cI, 64, .inl stk__4)), (aLaid, .inl (cI, 64, .inl laid__5))] → va_S A s.heap H locs → lv_has ls 7 [] → W p l e ({ frames := 5, cells := 0, slots := 0, locals := 116 } : Room) s m ([.ref aM, .int x1, .int x2, .int x3, .int x4] : List Value).toArray below meth c H locs 0 0 Q (F0 m 29 ls [])) (by
    intro  hq H locs ls hP hD hS hl
    refine lv_iconst (v := -1) hx hb dX6_layer_29 (by decide) ?_
    exact hret _ _ _ _ _ _ _ _ _ dX6_layer_30 hP hD hS hq)
  refine lv_icmp_eq (tgt := 29) hx hb dX6_layer_12 (by decide) (fun hc => ?_) (fun hc => ?_)
  · have hq := hq.1 hc
    exact hq _ _ _ hP hD hS (lv_sub hl [] rfl)
  · have hq := hq.2 hc
    refine lv_iload_n hx hb dX6_layer_15 rfl (lv_at hl 4 rfl) ?_
    refine lv_iconst (v := 0) hx hb dX6_layer_16 (by decide) ?_
    refine lv_aload_n hx hb dX6_layer_17 rfl (lv_at hl 1 rfl) ?_
    have hPc := hP.sub (ws' := [(aM, .inr (5, [.ref aZ, .ref aPast, .int pastMany, .ref aKz, .int isKept, .ref aBuf, .int typed, .ref aStk, .ref aLaid, .int wid__2, .int hei__3, .ref aPcs, .ref aTold, .int toldMany, .int spot, .int wrong]))]) [0] rfl
    have hDc := hD.sub (ws' := [(aM, .inr (5, [.ref aZ, .ref aPast, .int pastMany, .ref aKz, .int isKept, .ref aBuf, .int typed, .ref aStk, .ref aLaid, .int wid__2, .int hei__3, .ref aPcs, .ref aTold, .int toldMany, .int spot, .int wrong]))]) [0] (by decide) rfl
    have hFc := va_free (wc := [(aM, .inr (5, [.ref aZ, .ref aPast, .int pastMany, .ref aKz, .int isKept, .ref aBuf, .int typed, .ref aStk, .ref aLaid, .int wid__2, .int hei__3, .ref aPcs, .ref aTold, .int toldMany, .int spot, .int wrong]))]) hD hS hA [0] rfl
    refine va_calli (va_runV (As := []) (rest := [.int (0 : Int32), .int x3]) ⟨hx, hb, hml, hown, hts⟩ (c_X6_layers l dC dI cI cC cS aM aZ aPast aKz aBuf aStk aLaid aPcs aTold _ pastMany isKept typed wid__2 hei__3 toldMany spot wrong hq) (cwV 0 hts gX6_layer_X6_layers rfl rfl rfl (by decide +kernel) ⟨Nat.le_of_ble_eq_true rfl, Nat.le_of_ble_eq_true rfl⟩) (gn_preV hPc hK hN hDc (ci := 5) (q0 := 0) rfl rfl) rfl rfl hl.1 rfl (lv_room (Nat.le_of_ble_eq_true rfl)) dX6_layer_18 ⟨Nat.zero_le _, Nat.zero_le _⟩) hS (fun q _ h => hFc q h) hFc (fun r_6 u t H1 locs ht hvm hq hB hz1 hk1 hS => ?_)
    obtain ⟨hP1, hK1, hD1⟩ := hB
    rw [ht] at hP1
    try dsimp only at hq
    obtain ⟨hP, hD⟩ := va_join (wr := [(aZ, .inl (cI, 207, .inl zz)), (aStk, .inl (cI, 64, .inl stk__4)), (aLaid, .inl (cI, 64, .inl laid__5))]) (w1 := [(aM, .inr (5, [.ref aZ, .ref aPast, .int pastMany, .ref aKz, .int isKept, .ref aBuf, .int typed, .ref aStk, .ref aLaid, .int wid__2, .int hei__3, .ref aPcs, .ref aTold, .int toldMany, .int spot, .int wrong]))]) hP hD [0] [1, 2, 3] rfl rfl (by decide) (by decide) hk1 hFc hP1 hD1
    have hP := hP.sub (ws' := [(aM, .inr (5, [.ref aZ, .ref aPast, .int pastMany, .ref aKz, .int isKept, .ref aBuf, .int typed, .ref aStk, .ref aLaid, .int wid__2, .int hei__3, .ref aPcs, .ref aTold, .int toldMany, .int spot, .int wrong])), (aZ, .inl (cI, 207, .inl zz)), (aStk, .inl (cI, 64, .inl stk__4)), (aLaid, .inl (cI, 64, .inl laid__5))]) [3, 0, 1, 2] rfl
    have hD := hD.sub (ws' := [(aM, .inr (5, [.ref aZ, .ref aPast, .int pastMany, .ref aKz, .int isKept, .ref aBuf, .int typed, .ref aStk, .ref aLaid, .int wid__2, .int hei__3, .ref aPcs, .ref aTold, .int toldMany, .int spot, .int wrong])), (aZ, .inl (cI, 207, .inl zz)), (aStk, .inl (cI, 64, .inl stk__4)), (aLaid, .inl (cI, 64, .inl laid__5))]) [3, 0, 1, 2] (by decide) rfl
    generalize H1 = H at hP hS ⊢
    refine lv_iconst (v := 1) hx hb dX6_layer_21 (by decide) ?_
    refine lv_isub hx hb dX6_layer_22 ?_
    have hPc := hP.sub (ws' := []) [] rfl
    have hDc := hD.sub (ws' := []) [] (by decide) rfl
    have hFc := va_free (wc := []) hD hS hA [] rfl
    refine va_calli (va_runS (As := [.int x3, .int (0 : Int32), .int (r_6 - (1 : Int32))]) (rest := []) ⟨hx, hb, hml, hown, hts⟩ (c_X6_in l dC dI cI cC cS _ x3 (0 : Int32) (r_6 - (1 : Int32)) hq) (va_cwS 3 hts gX6_layer_X6_in rfl rfl rfl (by decide +kernel) ⟨Nat.le_of_ble_eq_true rfl, Nat.le_of_ble_eq_true rfl⟩) (gn_preS hPc hK hN hDc) rfl rfl hl.1 rfl (lv_room (Nat.le_of_ble_eq_true rfl)) dX6_layer_23 ⟨Nat.zero_le _, Nat.zero_le _⟩) hS (fun q _ h => hFc q h) hFc (fun r_7 u t H1 locs ht hvm hq hB hz1 hk1 hS => ?_)
    obtain ⟨hP1, hK1, hD1⟩ := hB
    rw [ht] at hP1
    try dsimp only at hq
    obtain ⟨hP, hD⟩ := va_join (wr := [(aM, .inr (5, [.ref aZ, .ref aPast, .int pastMany, .ref aKz, .int isKept, .ref aBuf, .int typed, .ref aStk, .ref aLaid, .int wid__2, .int hei__3, .ref aPcs, .ref aTold, .int toldMany, .int spot, .int wrong])), (aZ, .inl (cI, 207, .inl zz)), (aStk, .inl (cI, 64, .inl stk__4)), (aLaid, .inl (cI, 64, .inl laid__5))]) (w1 := []) hP hD [] [0, 1, 2, 3] rfl rfl (by decide) (by decide) hk1 hFc hP1 hD1
    have hP := hP.sub (ws' := [(aM, .inr (5, [.ref aZ, .ref aPast, .int pastMany, .ref aKz, .int isKept, .ref aBuf, .int typed, .ref aStk, .ref aLaid, .int wid__2, .int hei__3, .ref aPcs, .ref aTold, .int toldMany, .int spot, .int wrong])), (aZ, .inl (cI, 207, .inl zz)), (aStk, .inl (cI, 64, .inl stk__4)), (aLaid, .inl (cI, 64, .inl laid__5))]) [0, 1, 2, 3] rfl
    have hD := hD.sub (ws' := [(aM, .inr (5, [.ref aZ, .ref aPast, .int pastMany, .ref aKz, .int isKept, .ref aBuf, .int typed, .ref aStk, .ref aLaid, .int wid__2, .int hei__3, .ref aPcs, .ref aTold, .int toldMany, .int spot, .int wrong])), (aZ, .inl (cI, 207, .inl zz)), (aStk, .inl (cI, 64, .inl stk__4)), (aLaid, .inl (cI, 64, .inl laid__5))]) [0, 1, 2, 3] (by decide) rfl
    generalize H1 = H at hP hS ⊢
    refine lv_if_ne (tgt := 31) hx hb dX6_layer_26 (by decide) (fun hc => ?_) (fun hc => ?_)
    · have hq := hq.1 hc
      refine lv_aload_n hx hb dX6_layer_31 rfl (lv_at hl 1 rfl) ?_
      refine va_get (D := (dC, dI)) (ci := 5) (v := .ref aStk) (C := RX6) (T := TX6) (N := 16) hx hb hts iwX6_layer_X6 hown hK hP 0 rfl rfl 7 (by decide) (hts _ kwX6_layer_23) (fun _ h9 => h9) rfl dX6_layer_32 ?_
      refine lv_iload hx hb dX6_layer_35 (lv_at hl 0 rfl) ?_
      refine lv_iload_n hx hb dX6_layer_37 rfl (lv_at hl 4 rfl) ?_
      refine lv_iadd hx hb dX6_layer_38 ?_
      have hin := hq.1
      have hq := hq.2
      refine va_iald hx hb hK hP 2 0 rfl rfl hin dX6_layer_39 ?_
      refine lv_topi (fun w6_8 ew6_8 => ?_)
      have hq := hq w6_8 ew6_8
      refine lv_istore (lv' := [(6, .int w6_8), (5, .int r_1), (0, .ref aM), (1, .int x1), (2, .int x2), (3, .int x3), (4, .int x4)]) hx hb dX6_layer_40 hl (by decide) rfl (fun ls hl => ?_)
      refine lv_iload hx hb dX6_layer_42 (lv_at hl 6 rfl) ?_
      rcases gn_sw (0) (3) x4 with hO | ⟨j, hj, hj2⟩
      · have hq := hq.1 hO
        refine lv_tableOut (tgt := 110) hx hb dX6_layer_44 hO (by decide) ?_
        refine lv_bipush (v := -2) hx hb dX6_layer_110 (by decide) ?_
        exact hret _ _ _ _ _ _ _ _ _ dX6_layer_112 hP hD hS hq
      · have hq := hq.2
        have hj3 : j = 0 ∨ j = 1 ∨ j = 2 ∨ j = 3 := by omega
        rcases hj3 with rfl | rfl | rfl | rfl
        · have hc : x4 = (0 : Int32) := hj2.trans (by decide)
          have hq := hq.1 hc
          refine lv_tableIn (off := 32) (tgt := 76) hx hb dX6_layer_44 (by rw [hc]; decide) (by rw [hc]; decide) (by rw [hc]; rfl) (by decide) ?_
          refine lv_iload hx hb dX6_layer_76 (lv_at hl 0 rfl) ?_
          refine lv_iconst (v := 2) hx hb dX6_layer_78 (by decide) ?_
          refine lv_idiv hx hb dX6_layer_79 (by decide) ?_
          exact hret _ _ _ _ _ _ _ _ _ dX6_layer_80 hP hD hS hq
        · have hc : x4 = (1 : Int32) := hj2.trans (by decide)
          have hq := hq.2.1 hc
          refine lv_tableIn (off := 37) (tgt := 81) hx hb dX6_layer_44 (by rw [hc]; decide) (by rw [hc]; decide) (by rw [hc]; rfl) (by decide) ?_
          refine lv_iload hx hb dX6_layer_81 (lv_at hl 0 rfl) ?_
          refine lv_iconst (v := 2) hx hb dX6_layer_83 (by decide) ?_
          refine lv_irem hx hb dX6_layer_84 (by decide) ?_
          exact hret _ _ _ _ _ _ _ _ _ dX6_layer_85 hP hD hS hq
        · have hc : x4 = (2 : Int32) := hj2.trans (by decide)
          have hq := hq.2.2.1 hc
          refine lv_tableIn (off := 42) (tgt := 86) hx hb dX6_layer_44 (by rw [hc]; decide) (by rw [hc]; decide) (by rw [hc]; rfl) (by decide) ?_
          refine lv_aload_n hx hb dX6_layer_86 rfl (lv_at hl 2 rfl) ?_
          refine va_get (D := (dC, dI)) (ci := 5) (v := .ref aZ) (C := RX6) (T := TX6) (N := 16) hx hb hts iwX6_layer_X6 hown hK hP 0 rfl rfl 0 (by decide) (hts _ kwX6_layer_7) (fun _ h9 => h9) rfl dX6_layer_87 ?_
          refine lv_bipush (v := 7) hx hb dX6_layer_90 (by decide) ?_
          refine lv_iload hx hb dX6_layer_92 (lv_at hl 0 rfl) ?_
          refine lv_iconst (v := 2) hx hb dX6_layer_94 (by decide) ?_
          refine lv_idiv hx hb dX6_layer_95 (by decide) ?_
          refine lv_iadd hx hb dX6_layer_96 ?_
          have hin := hq.1
          have hq := hq.2
          refine va_iald hx hb hK hP 1 0 rfl rfl hin dX6_layer_97 ?_
          exact hret _ _ _ _ _ _ _ _ _ dX6_layer_98 hP hD hS hq
        · have hc : x4 = (3 : Int32) := hj2.trans (by decide)
          have hq := hq.2.2.2 hc
          refine lv_tableIn (off := 55) (tgt := 99) hx hb dX6_layer_44 (by rw [hc]; decide) (by rw [hc]; decide) (by rw [hc]; rfl) (by decide) ?_
          refine lv_aload_n hx hb dX6_layer_99 rfl (lv_at hl 2 rfl) ?_
          refine va_get (D := (dC, dI)) (ci := 5) (v := .ref aZ) (C := RX6) (T := TX6) (N := 16) hx hb hts iwX6_layer_X6 hown hK hP 0 rfl rfl 0 (by decide) (hts _ kwX6_layer_7) (fun _ h9 => h9) rfl dX6_layer_100 ?_
          refine lv_bipush (v := 71) hx hb dX6_layer_103 (by decide) ?_
          refine lv_iload hx hb dX6_layer_105 (lv_at hl 0 rfl) ?_
          refine lv_iadd hx hb dX6_layer_107 ?_
          have hin := hq.1
          have hq := hq.2
          refine va_iald hx hb hK hP 1 0 rfl rfl hin dX6_layer_108 ?_
          exact hret _ _ _ _ _ _ _ _ _ dX6_layer_109 hP hD hS hq
    · have hq := hq.2 hc
      exact hq _ _ _ hP hD hS (lv_sub hl [] rfl)
set_option maxRecDepth 20000 in
theorem kwX6_seen_7 : Cond.fieldLink RX6 7 "PunchedFoldsModel" "z" "[I" ∈ wsX6_seen := by decide +kernel
set_option maxRecDepth 20000 in
theorem iwX6_seen_X6 : ∀ w ∈ wsX60, w ∈ wsX6_seen := by decide +kernel
set_option maxHeartbeats 4000000 in
set_option maxRecDepth 100000 in
theorem c_X6_seen (l : Launch) (dC : Nat → ClassId) (dI : Nat → Nat → Nat) (cI cC cS : ClassId) (aM : Nat) (aZ : Nat) (aPast : Nat) (aKz : Nat) (aBuf : Nat) (aStk : Nat) (aLaid : Nat) (aPcs : Nat) (aTold : Nat) (sz : Nat) (pastMany : Int32) (isKept : Int32) (typed : Int32) (wid : Int32) (hei : Int32) (toldMany : Int32) (spot : Int32) (wrong : Int32) (zz : Nat → Int32) (stk : Nat → Int32) (laid : Nat → Int32) (x1 : Int32) (x2 : Int32) {post : Int32 → Int32 → Int32 → (Nat → Int32) → (Nat → Int32) → Prop} (hq : wp_X6_seen wid hei zz stk laid x1 x2 post) : Met l yX6_seen wsX6_seen ({ frames := 5, cells := 0, slots := 0, locals := 116 } : Room) (gn_Pre (dC, dI) cI cC cS [.ref aM, .int x1, .int x2] sz [(aM, .inr (5, [.ref aZ, .ref aPast, .int pastMany, .ref aKz, .int isKept, .ref aBuf, .int typed, .ref aStk, .ref aLaid, .int wid, .int hei, .ref aPcs, .ref aTold, .int toldMany, .int spot, .int wrong])), (aZ, .inl (cI, 207, .inl zz)), (aStk, .inl (cI, 64, .inl stk)), (aLaid, .inl (cI, 64, .inl laid))]) (va_Qi (fun (r : Int32) (u : Int32 × Int32 × (Nat → Int32) × (Nat → Int32)) => post r u.1 u.2.1 u.2.2.1 u.2.2.2) (fun (u : Int32 × Int32 × (Nat → Int32) × (Nat → Int32)) t => va_P (dC, dI) vwCl [(aM, .inr (5, [.ref aZ, .ref aPast, .int pastMany, .ref aKz, .int isKept, .ref aBuf, .int typed, .ref aStk, .ref aLaid, .int u.1, .int u.2.1, .ref aPcs, .ref aTold, .int toldMany, .int spot, .int wrong])), (aZ, .inl (cI, 207, .inl zz)), (aStk, .inl (cI, 64, .inl u.2.2.1)), (aLaid, .inl (cI, 64, .inl u.2.2.2))] t.heap ∧ va_K (dC, dI) vwCl (gn_tys cI cC cS) t ∧ va_D (va_A [(aM, .inr (5, [.ref aZ, .ref aPast, .int pastMany, .ref aKz, .int isKept, .ref aBuf, .int typed, .ref aStk, .ref aLaid, .int wid, .int hei, .ref aPcs, .ref aTold, .int toldMany, .int spot, .int wrong])), (aZ, .inl (cI, 207, .inl zz)), (aStk, .inl (cI, 64, .inl stk)), (aLaid, .inl (cI, 64, .inl laid))] sz) [(aM, .inr (5, [.ref aZ, .ref aPast, .int pastMany, .ref aKz, .int isKept, .ref aBuf, .int typed, .ref aStk, .ref aLaid, .int u.1, .int u.2.1, .ref aPcs, .ref aTold, .int toldMany, .int spot, .int wrong])), (aZ, .inl (cI, 207, .inl zz)), (aStk, .inl (cI, 64, .inl u.2.2.1)), (aLaid, .inl (cI, 64, .inl u.2.2.2))]) (va_A [(aM, .inr (5, [.ref aZ, .ref aPast, .int pastMany, .ref aKz, .int isKept, .ref aBuf, .int typed, .ref aStk, .ref aLaid, .int wid, .int hei, .ref aPcs, .ref aTold, .int toldMany, .int spot, .int wrong])), (aZ, .inl (cI, 207, .inl zz)), (aStk, .inl (cI, 64, .inl stk)), (aLaid, .inl (cI, 64, .inl laid))] sz)) 0 0 (va_A [(aM, .inr (5, [.ref aZ, .ref aPast, .int pastMany, .ref aKz, .int isKept, .ref aBuf, .int typed, .ref aStk, .ref aLaid, .int wid, .int hei, .ref aPcs, .ref aTold, .int toldMany, .int spot, .int wrong])), (aZ, .inl (cI, 207, .inl zz)), (aStk, .inl (cI, 64, .inl stk)), (aLaid, .inl (cI, 64, .inl laid))] sz) := by
  unfold wp_X6_seen at hq
  refine Met.ofW (cc := cX6_seen) (maxL := 5) (ret := (some .int)) (by decide) rfl ?_
  intro p e s m args below meth c s₁ B hml hv
  obtain ⟨rfl, hsz, hP, hK, hN, hD0⟩ := hv
  have hx := B.exec
  have hb := B.bytes
  have hr := B.returns
  have hts := atoms_spec (ws := wsX6_seen) B.pre
  have hown : s.vm.findClass RX6 = some m.cls := findClass_of_methodNamed B.named
  have hlocks := B.notSynchronized
  subst hsz
  have hD := hD0.self (sz := s.heap.size)
  generalize hAe : va_A [(aM, .inr (5, [.ref aZ, .ref aPast, .int pastMany, .ref aKz, .int isKept, .ref aBuf, .int typed, .ref aStk, .ref aLaid, .int wid, .int hei, .ref aPcs, .ref aTold, .int toldMany, .int spot, .int wrong])), (aZ, .inl (cI, 207, .inl zz)), (aStk, .inl (cI, 64, .inl stk)), (aLaid, .inl (cI, 64, .inl laid))] s.heap.size = A at hD ⊢
  have hA : ∀ q : Nat, s.heap.size ≤ q → A q := fun q h => by rw [← hAe]; exact Or.inr h
  have hS : va_S A s.heap s.heap [] := va_S.rf
  have hl := lv_entry ([.ref aM, .int x1, .int x2] : List Value) (n := 5) (Nat.le_of_ble_eq_true rfl)
  rw [lg_entry_eq]
  generalize (lg_sl ([.ref aM, .int x1, .int x2] : List Value) ++ List.replicate (5 - (lg_sl ([.ref aM, .int x1, .int x2] : List Value)).length) Slot.unset).toArray = ls at hl ⊢
  have hl : lv_has ls 5 [(0, .ref aM), (1, .int x1), (2, .int x2)] := hl
  refine gn_Q (hret := fun Q => ∀ (pc : Nat) (ls : Array Slot) (H : Heap) (locs : List Loc) (r : Int32) (m_wid : Int32) (m_hei : Int32) (m_stk : Nat → Int32) (m_laid : Nat → Int32), decode cX6_seen pc = .ok (.ireturn, 1) → va_P (dC, dI) vwCl [(aM, .inr (5, [.ref aZ, .ref aPast, .int pastMany, .ref aKz, .int isKept, .ref aBuf, .int typed, .ref aStk, .ref aLaid, .int m_wid, .int m_hei, .ref aPcs, .ref aTold, .int toldMany, .int spot, .int wrong])), (aZ, .inl (cI, 207, .inl zz)), (aStk, .inl (cI, 64, .inl m_stk)), (aLaid, .inl (cI, 64, .inl m_laid))] H → va_D A [(aM, .inr (5, [.ref aZ, .ref aPast, .int pastMany, .ref aKz, .int isKept, .ref aBuf, .int typed, .ref aStk, .ref aLaid, .int m_wid, .int m_hei, .ref aPcs, .ref aTold, .int toldMany, .int spot, .int wrong])), (aZ, .inl (cI, 207, .inl zz)), (aStk, .inl (cI, 64, .inl m_stk)), (aLaid, .inl (cI, 64, .inl m_laid))] → va_S A s.heap H locs → post r m_wid m_hei m_stk m_laid → W p l e ({ frames := 5, cells := 0, slots := 0, locals := 116 } : Room) s m ([.ref aM, .int x1, .int x2] : List Value).toArray below meth c H locs 0 0 Q (F0 m pc ls [.int r])) (fun Q hret => ?_) ?_
  rotate_left
  · intro pc ls H locs r m_wid m_hei m_stk m_laid hdg hP hD hS hpost
    exact W.iret (v := r) hx hb hr (fun t ht hW => ⟨⟨r, (m_wid, m_hei, m_stk, m_laid), rfl, hpost, by rw [ht]; exact hP, va_K.moved hW.alike hK, hD⟩, hS.F ht⟩) hS.2.2 hdg
  refine lv_aload_n hx hb dX6_seen_0 rfl (lv_at hl 0 rfl) ?_
  refine lv_iload_n hx hb dX6_seen_1 rfl (lv_at hl 1 rfl) ?_
  refine lv_iload_n hx hb dX6_seen_2 rfl (lv_at hl 2 rfl) ?_
  have hPc := hP.sub (ws' := [(aM, .inr (5, [.ref aZ, .ref aPast, .int pastMany, .ref aKz, .int isKept, .ref aBuf, .int typed, .ref aStk, .ref aLaid, .int wid, .int hei, .ref aPcs, .ref aTold, .int toldMany, .int spot, .int wrong])), (aZ, .inl (cI, 207, .inl zz)), (aStk, .inl (cI, 64, .inl stk)), (aLaid, .inl (cI, 64, .inl laid))]) [0, 1, 2, 3] rfl
  have hDc := hD.sub (ws' := [(aM, .inr (5, [.ref aZ, .ref aPast, .int pastMany, .ref aKz, .int isKept, .ref aBuf, .int typed, .ref aStk, .ref aLaid, .int wid, .int hei, .ref aPcs, .ref aTold, .int toldMany, .int spot, .int wrong])), (aZ, .inl (cI, 207, .inl zz)), (aStk, .inl (cI, 64, .inl stk)), (aLaid, .inl (cI, 64, .inl laid))]) [0, 1, 2, 3] (by decide) rfl
  have hFc := va_free (wc := [(aM, .inr (5, [.ref aZ, .ref aPast, .int pastMany, .ref aKz, .int isKept, .ref aBuf, .int typed, .ref aStk, .ref aLaid, .int wid, .int hei, .ref aPcs, .ref aTold, .int toldMany, .int spot, .int wrong])), (aZ, .inl (cI, 207, .inl zz)), (aStk, .inl (cI, 64, .inl stk)), (aLaid, .inl (cI, 64, .inl laid))]) hD hS hA [0, 1, 2, 3] rfl
  refine va_calli (va_runV (As := [.int x1, .int x2]) (rest := []) ⟨hx, hb, hml, hown, hts⟩ (c_X6_top l dC dI cI cC cS aM aZ aPast aKz aBuf aStk aLaid aPcs aTold _ pastMany isKept typed wid hei toldMany spot wrong zz stk laid x1 x2 hq) (cwV 2 hts gX6_seen_X6_top rfl rfl rfl (by decide +kernel) ⟨Nat.le_of_ble_eq_true rfl, Nat.le_of_ble_eq_true rfl⟩) (gn_preV hPc hK hN hDc (ci := 5) (q0 := 0) rfl rfl) rfl rfl hl.1 rfl (lv_room (Nat.le_of_ble_eq_true rfl)) dX6_seen_3 ⟨Nat.zero_le _, Nat.zero_le _⟩) hS (fun q _ h => hFc q h) hFc (fun r_1 u t H1 locs ht hvm hq hB hz1 hk1 hS => ?_)
  obtain ⟨wid__2, hei__3, stk__4, laid__5⟩ := u
  obtain ⟨hP1, hK1, hD1⟩ := hB
  rw [ht] at hP1
  try dsimp only at hq
  obtain ⟨hP, hD⟩ := va_join (wr := []) (w1 := [(aM, .inr (5, [.ref aZ, .ref aPast, .int pastMany, .ref aKz, .int isKept, .ref aBuf, .int typed, .ref aStk, .ref aLaid, .int wid__2, .int hei__3, .ref aPcs, .ref aTold, .int toldMany, .int spot, .int wrong])), (aZ, .inl (cI, 207, .inl zz)), (aStk, .inl (cI, 64, .inl stk__4)), (aLaid, .inl (cI, 64, .inl laid__5))]) hP hD [0, 1, 2, 3] [] rfl rfl (by decide) (by decide) hk1 hFc hP1 hD1
  have hP := hP.sub (ws' := [(aM, .inr (5, [.ref aZ, .ref aPast, .int pastMany, .ref aKz, .int isKept, .ref aBuf, .int typed, .ref aStk, .ref aLaid, .int wid__2, .int hei__3, .ref aPcs, .ref aTold, .int toldMany, .int spot, .int wrong])), (aZ, .inl (cI, 207, .inl zz)), (aStk, .inl (cI, 64, .inl stk__4)), (aLaid, .inl (cI, 64, .inl laid__5))]) [0, 1, 2, 3] rfl
  have hD := hD.sub (ws' := [(aM, .inr (5, [.ref aZ, .ref aPast, .int pastMany, .ref aKz, .int isKept, .ref aBuf, .int typed, .ref aStk, .ref aLaid, .int wid__2, .int hei__3, .ref aPcs, .ref aTold, .int toldMany, .int spot, .int wrong])), (aZ, .inl (cI, 207, .inl zz)), (aStk, .inl (cI, 64, .inl stk__4)), (aLaid, .inl (cI, 64, .inl laid__5))]) [0, 1, 2, 3] (by decide) rfl
  generalize H1 = H at hP hS ⊢
  refine lv_istore_n (lv' := [(3, .int r_1), (0, .ref aM), (1, .int x1), (2, .int x2)]) hx hb dX6_seen_6 rfl hl (by decide) rfl (fun ls hl => ?_)
  refine lv_iload_n hx hb dX6_seen_7 rfl (lv_at hl 0 rfl) ?_
  refine lv_bipush (v := -6) hx hb dX6_seen_8 (by decide) ?_
  refine lv_icmp_ne (tgt := 15) hx hb dX6_seen_10 (by decide) (fun hc => ?_) (fun hc => ?_)
  · have hq := hq.1 hc
    refine lv_aload_n hx hb dX6_seen_15 rfl (lv_at hl 1 rfl) ?_
    refine lv_iload_n hx hb dX6_seen_16 rfl (lv_at hl 0 rfl) ?_
    have hPc := hP.sub (ws' := [(aM, .inr (5, [.ref aZ, .ref aPast, .int pastMany, .ref aKz, .int isKept, .ref aBuf, .int typed, .ref aStk, .ref aLaid, .int wid__2, .int hei__3, .ref aPcs, .ref aTold, .int toldMany, .int spot, .int wrong])), (aZ, .inl (cI, 207, .inl zz)), (aStk, .inl (cI, 64, .inl stk__4))]) [0, 1, 2] rfl
    have hDc := hD.sub (ws' := [(aM, .inr (5, [.ref aZ, .ref aPast, .int pastMany, .ref aKz, .int isKept, .ref aBuf, .int typed, .ref aStk, .ref aLaid, .int wid__2, .int hei__3, .ref aPcs, .ref aTold, .int toldMany, .int spot, .int wrong])), (aZ, .inl (cI, 207, .inl zz)), (aStk, .inl (cI, 64, .inl stk__4))]) [0, 1, 2] (by decide) rfl
    have hFc := va_free (wc := [(aM, .inr (5, [.ref aZ, .ref aPast, .int pastMany, .ref aKz, .int isKept, .ref aBuf, .int typed, .ref aStk, .ref aLaid, .int wid__2, .int hei__3, .ref aPcs, .ref aTold, .int toldMany, .int spot, .int wrong])), (aZ, .inl (cI, 207, .inl zz)), (aStk, .inl (cI, 64, .inl stk__4))]) hD hS hA [0, 1, 2] rfl
    refine va_calli (va_runV (As := [.int r_1]) (rest := []) ⟨hx, hb, hml, hown, hts⟩ (c_X6_firstWhole l dC dI cI cC cS aM aZ aPast aKz aBuf aStk aLaid aPcs aTold _ pastMany isKept typed wid__2 hei__3 toldMany spot wrong zz stk__4 r_1 hq) (cwV 1 hts gX6_seen_X6_firstWhole rfl rfl rfl (by decide +kernel) ⟨Nat.le_of_ble_eq_true rfl, Nat.le_of_ble_eq_true rfl⟩) (gn_preV hPc hK hN hDc (ci := 5) (q0 := 0) rfl rfl) rfl rfl hl.1 rfl (lv_room (Nat.le_of_ble_eq_true rfl)) dX6_seen_17 ⟨Nat.zero_le _, Nat.zero_le _⟩) hS (fun q _ h => hFc q h) hFc (fun r_6 u t H1 locs ht hvm hq hB hz1 hk1 hS => ?_)
    obtain ⟨hP1, hK1, hD1⟩ := hB
    rw [ht] at hP1
    try dsimp only at hq
    obtain ⟨hP, hD⟩ := va_join (wr := [(aLaid, .inl (cI, 64, .inl laid__5))]) (w1 := [(aM, .inr (5, [.ref aZ, .ref aPast, .int pastMany, .ref aKz, .int isKept, .ref aBuf, .int typed, .ref aStk, .ref aLaid, .int wid__2, .int hei__3, .ref aPcs, .ref aTold, .int toldMany, .int spot, .int wrong])), (aZ, .inl (cI, 207, .inl zz)), (aStk, .inl (cI, 64, .inl stk__4))]) hP hD [0, 1, 2] [3] rfl rfl (by decide) (by decide) hk1 hFc hP1 hD1
    have hP := hP.sub (ws' := [(aM, .inr (5, [.ref aZ, .ref aPast, .int pastMany, .ref aKz, .int isKept, .ref aBuf, .int typed, .ref aStk, .ref aLaid, .int wid__2, .int hei__3, .ref aPcs, .ref aTold, .int toldMany, .int spot, .int wrong])), (aZ, .inl (cI, 207, .inl zz)), (aStk, .inl (cI, 64, .inl stk__4)), (aLaid, .inl (cI, 64, .inl laid__5))]) [1, 2, 3, 0] rfl
    have hD := hD.sub (ws' := [(aM, .inr (5, [.ref aZ, .ref aPast, .int pastMany, .ref aKz, .int isKept, .ref aBuf, .int typed, .ref aStk, .ref aLaid, .int wid__2, .int hei__3, .ref aPcs, .ref aTold, .int toldMany, .int spot, .int wrong])), (aZ, .inl (cI, 207, .inl zz)), (aStk, .inl (cI, 64, .inl stk__4)), (aLaid, .inl (cI, 64, .inl laid__5))]) [1, 2, 3, 0] (by decide) rfl
    generalize H1 = H at hP hS ⊢
    refine lv_istore (lv' := [(4, .int r_6), (3, .int r_1), (0, .ref aM), (1, .int x1), (2, .int x2)]) hx hb dX6_seen_20 hl (by decide) rfl (fun ls hl => ?_)
    refine lv_iload hx hb dX6_seen_22 (lv_at hl 0 rfl) ?_
    refine lv_bipush (v := -6) hx hb dX6_seen_24 (by decide) ?_
    refine lv_icmp_ne (tgt := 34) hx hb dX6_seen_26 (by decide) (fun hc => ?_) (fun hc => ?_)
    · have hq := hq.1 hc
      refine lv_bipush (v := 10) hx hb dX6_seen_34 (by decide) ?_
      refine lv_iload hx hb dX6_seen_36 (lv_at hl 0 rfl) ?_
      refine lv_iconst (v := 2) hx hb dX6_seen_38 (by decide) ?_
      refine lv_idiv hx hb dX6_seen_39 (by decide) ?_
      refine lv_imul hx hb dX6_seen_40 ?_
      refine lv_aload_n hx hb dX6_seen_41 rfl (lv_at hl 2 rfl) ?_
      refine va_get (D := (dC, dI)) (ci := 5) (v := .ref aZ) (C := RX6) (T := TX6) (N := 16) hx hb hts iwX6_seen_X6 hown hK hP 0 rfl rfl 0 (by decide) (hts _ kwX6_seen_7) (fun _ h9 => h9) rfl dX6_seen_42 ?_
      refine lv_bipush (v := 71) hx hb dX6_seen_45 (by decide) ?_
      refine lv_iload hx hb dX6_seen_47 (lv_at hl 0 rfl) ?_
      refine lv_iadd hx hb dX6_seen_49 ?_
      have hin := hq.1
      have hq := hq.2
      refine va_iald hx hb hK hP 1 0 rfl rfl hin dX6_seen_50 ?_
      refine lv_iadd hx hb dX6_seen_51 ?_
      exact hret _ _ _ _ _ _ _ _ _ dX6_seen_52 hP hD hS hq
    · have hq := hq.2 hc
      refine lv_bipush (v := -6) hx hb dX6_seen_29 (by decide) ?_
      refine lv_goto (tgt := 52) hx hb dX6_seen_31 (by decide) ?_
      exact hret _ _ _ _ _ _ _ _ _ dX6_seen_52 hP hD hS hq
  · have hq := hq.2 hc
    refine lv_iconst (v := -1) hx hb dX6_seen_13 (by decide) ?_
    exact hret _ _ _ _ _ _ _ _ _ dX6_seen_14 hP hD hS hq
set_option maxHeartbeats 4000000 in
set_option maxRecDepth 100000 in
theorem c_X6_isCell (l : Launch) (dC : Nat → ClassId) (dI : Nat → Nat → Nat) (cI cC cS : ClassId) (sz : Nat) (x0 : Int32) {post : Int32 → Prop} (hq : wp_X6_isCell x0 post) : Met l yX6_isCell wsX6_isCell ({ frames := 1, cells := 0, slots := 0, locals := 22 } : Room) (gn_Pre (dC, dI) cI cC cS [.int x0] sz []) (va_Qi (fun (r : Int32) (u : Unit) => post r) (fun (u : Unit) t => va_P (dC, dI) vwCl [] t.heap ∧ va_K (dC, dI) vwCl (gn_tys cI cC cS) t ∧ va_D (va_A [] sz) []) (va_A [] sz)) 0 0 (va_A [] sz) := by
  unfold wp_X6_isCell at hq
  refine Met.ofW (cc := cX6_isCell) (maxL := 1) (ret := (some .boolean)) (by decide) rfl ?_
  intro p e s m args below meth c s₁ B hml hv
  obtain ⟨rfl, hsz, hP, hK, hN, hD0⟩ := hv
  have hx := B.exec
  have hb := B.bytes
  have hr := B.returns
  have hts := atoms_spec (ws := wsX6_isCell) B.pre
  have hown : s.vm.findClass RX6 = some m.cls := findClass_of_methodNamed B.named
  have hlocks := B.notSynchronized
  subst hsz
  have hD := hD0.self (sz := s.heap.size)
  generalize hAe : va_A [] s.heap.size = A at hD ⊢
  have hA : ∀ q : Nat, s.heap.size ≤ q → A q := fun q h => by rw [← hAe]; exact Or.inr h
  have hS : va_S A s.heap s.heap [] := va_S.rf
  have hl := lv_entry ([.int x0] : List Value) (n := 1) (Nat.le_of_ble_eq_true rfl)
  rw [lg_entry_eq]
  generalize (lg_sl ([.int x0] : List Value) ++ List.replicate (1 - (lg_sl ([.int x0] : List Value)).length) Slot.unset).toArray = ls at hl ⊢
  have hl : lv_has ls 1 [(0, .int x0)] := hl
  refine gn_Q (hret := fun Q => ∀ (pc : Nat) (ls : Array Slot) (H : Heap) (locs : List Loc) (r : Int32) , decode cX6_isCell pc = .ok (.ireturn, 1) → va_P (dC, dI) vwCl [] H → va_D A [] → va_S A s.heap H locs → (r = 0 ∨ r = 1) → post r → W p l e ({ frames := 1, cells := 0, slots := 0, locals := 22 } : Room) s m ([.int x0] : List Value).toArray below meth c H locs 0 0 Q (F0 m pc ls [.int r])) (fun Q hret => ?_) ?_
  rotate_left
  · intro pc ls H locs r hdg hP hD hS hz hpost
    exact W.zret (v := r) hx hb hr (gn_nz hz) (fun t ht hW => ⟨⟨r, (), rfl, hpost, by rw [ht]; exact hP, va_K.moved hW.alike hK, hD⟩, hS.F ht⟩) hS.2.2 hdg
  refine lv_iload_n hx hb dX6_isCell_0 rfl (lv_at hl 0 rfl) ?_
  refine lv_iconst (v := 0) hx hb dX6_isCell_1 (by decide) ?_
  refine lv_bipush (v := 63) hx hb dX6_isCell_2 (by decide) ?_
  have hPc := hP.sub (ws' := []) [] rfl
  have hDc := hD.sub (ws' := []) [] (by decide) rfl
  have hFc := va_free (wc := []) hD hS hA [] rfl
  refine va_calli (va_runS (As := [.int x0, .int (0 : Int32), .int (63 : Int32)]) (rest := []) ⟨hx, hb, hml, hown, hts⟩ (c_X6_in l dC dI cI cC cS _ x0 (0 : Int32) (63 : Int32) hq) (va_cwS 3 hts gX6_isCell_X6_in rfl rfl rfl (by decide +kernel) ⟨Nat.le_of_ble_eq_true rfl, Nat.le_of_ble_eq_true rfl⟩) (gn_preS hPc hK hN hDc) rfl rfl hl.1 rfl (lv_room (Nat.le_of_ble_eq_true rfl)) dX6_isCell_4 ⟨Nat.zero_le _, Nat.zero_le _⟩) hS (fun q _ h => hFc q h) hFc (fun r_1 u t H1 locs ht hvm hq hB hz1 hk1 hS => ?_)
  obtain ⟨hP1, hK1, hD1⟩ := hB
  rw [ht] at hP1
  try dsimp only at hq
  obtain ⟨hP, hD⟩ := va_join (wr := []) (w1 := []) hP hD [] [] rfl rfl (by decide) (by decide) hk1 hFc hP1 hD1
  have hP : va_P (dC, dI) vwCl [] H1 := hP
  have hD : va_D A [] := hD
  generalize H1 = H at hP hS ⊢
  have hz := hq.1
  have hq := hq.2
  exact hret _ _ _ _ _ dX6_isCell_7 hP hD hS hz hq
set_option maxRecDepth 20000 in
theorem kwX6_where_23 : Cond.fieldLink RX6 23 "PunchedFoldsModel" "stacks" "[I" ∈ wsX6_where := by decide +kernel
set_option maxRecDepth 20000 in
theorem iwX6_where_X6 : ∀ w ∈ wsX60, w ∈ wsX6_where := by decide +kernel
set_option maxRecDepth 20000 in
theorem kwX6_where_46 : Cond.fieldLink RX6 46 "PunchedFoldsModel" "width" "I" ∈ wsX6_where := by decide +kernel
set_option maxHeartbeats 4000000 in
set_option maxRecDepth 100000 in
theorem c_X6_where (l : Launch) (dC : Nat → ClassId) (dI : Nat → Nat → Nat) (cI cC cS : ClassId) (aM : Nat) (aZ : Nat) (aPast : Nat) (aKz : Nat) (aBuf : Nat) (aStk : Nat) (aLaid : Nat) (aPcs : Nat) (aTold : Nat) (sz : Nat) (pastMany : Int32) (isKept : Int32) (typed : Int32) (wid : Int32) (hei : Int32) (toldMany : Int32) (spot : Int32) (wrong : Int32) (zz : Nat → Int32) (stk : Nat → Int32) (laid : Nat → Int32) (x1 : Int32) (x2 : Int32) {post : Int32 → Int32 → Int32 → (Nat → Int32) → (Nat → Int32) → Prop} (hq : wp_X6_where wid hei zz stk laid x1 x2 post) : Met l yX6_where wsX6_where ({ frames := 4, cells := 0, slots := 0, locals := 94 } : Room) (gn_Pre (dC, dI) cI cC cS [.ref aM, .int x1, .int x2] sz [(aM, .inr (5, [.ref aZ, .ref aPast, .int pastMany, .ref aKz, .int isKept, .ref aBuf, .int typed, .ref aStk, .ref aLaid, .int wid, .int hei, .ref aPcs, .ref aTold, .int toldMany, .int spot, .int wrong])), (aZ, .inl (cI, 207, .inl zz)), (aStk, .inl (cI, 64, .inl stk)), (aLaid, .inl (cI, 64, .inl laid))]) (va_Qi (fun (r : Int32) (u : Int32 × Int32 × (Nat → Int32) × (Nat → Int32)) => post r u.1 u.2.1 u.2.2.1 u.2.2.2) (fun (u : Int32 × Int32 × (Nat → Int32) × (Nat → Int32)) t => va_P (dC, dI) vwCl [(aM, .inr (5, [.ref aZ, .ref aPast, .int pastMany, .ref aKz, .int isKept, .ref aBuf, .int typed, .ref aStk, .ref aLaid, .int u.1, .int u.2.1, .ref aPcs, .ref aTold, .int toldMany, .int spot, .int wrong])), (aZ, .inl (cI, 207, .inl zz)), (aStk, .inl (cI, 64, .inl u.2.2.1)), (aLaid, .inl (cI, 64, .inl u.2.2.2))] t.heap ∧ va_K (dC, dI) vwCl (gn_tys cI cC cS) t ∧ va_D (va_A [(aM, .inr (5, [.ref aZ, .ref aPast, .int pastMany, .ref aKz, .int isKept, .ref aBuf, .int typed, .ref aStk, .ref aLaid, .int wid, .int hei, .ref aPcs, .ref aTold, .int toldMany, .int spot, .int wrong])), (aZ, .inl (cI, 207, .inl zz)), (aStk, .inl (cI, 64, .inl stk)), (aLaid, .inl (cI, 64, .inl laid))] sz) [(aM, .inr (5, [.ref aZ, .ref aPast, .int pastMany, .ref aKz, .int isKept, .ref aBuf, .int typed, .ref aStk, .ref aLaid, .int u.1, .int u.2.1, .ref aPcs, .ref aTold, .int toldMany, .int spot, .int wrong])), (aZ, .inl (cI, 207, .inl zz)), (aStk, .inl (cI, 64, .inl u.2.2.1)), (aLaid, .inl (cI, 64, .inl u.2.2.2))]) (va_A [(aM, .inr (5, [.ref aZ, .ref aPast, .int pastMany, .ref aKz, .int isKept, .ref aBuf, .int typed, .ref aStk, .ref aLaid, .int wid, .int hei, .ref aPcs, .ref aTold, .int toldMany, .int spot, .int wrong])), (aZ, .inl (cI, 207, .inl zz)), (aStk, .inl (cI, 64, .inl stk)), (aLaid, .inl (cI, 64, .inl laid))] sz)) 0 0 (va_A [(aM, .inr (5, [.ref aZ, .ref aPast, .int pastMany, .ref aKz, .int isKept, .ref aBuf, .int typed, .ref aStk, .ref aLaid, .int wid, .int hei, .ref aPcs, .ref aTold, .int toldMany, .int spot, .int wrong])), (aZ, .inl (cI, 207, .inl zz)), (aStk, .inl (cI, 64, .inl stk)), (aLaid, .inl (cI, 64, .inl laid))] sz) := by
  unfold wp_X6_where at hq
  refine Met.ofW (cc := cX6_where) (maxL := 5) (ret := (some .int)) (by decide) rfl ?_
  intro p e s m args below meth c s₁ B hml hv
  obtain ⟨rfl, hsz, hP, hK, hN, hD0⟩ := hv
  have hx := B.exec
  have hb := B.bytes
  have hr := B.returns
  have hts := atoms_spec (ws := wsX6_where) B.pre
  have hown : s.vm.findClass RX6 = some m.cls := findClass_of_methodNamed B.named
  have hlocks := B.notSynchronized
  subst hsz
  have hD := hD0.self (sz := s.heap.size)
  generalize hAe : va_A [(aM, .inr (5, [.ref aZ, .ref aPast, .int pastMany, .ref aKz, .int isKept, .ref aBuf, .int typed, .ref aStk, .ref aLaid, .int wid, .int hei, .ref aPcs, .ref aTold, .int toldMany, .int spot, .int wrong])), (aZ, .inl (cI, 207, .inl zz)), (aStk, .inl (cI, 64, .inl stk)), (aLaid, .inl (cI, 64, .inl laid))] s.heap.size = A at hD ⊢
  have hA : ∀ q : Nat, s.heap.size ≤ q → A q := fun q h => by rw [← hAe]; exact Or.inr h
  have hS : va_S A s.heap s.heap [] := va_S.rf
  have hl := lv_entry ([.ref aM, .int x1, .int x2] : List Value) (n := 5) (Nat.le_of_ble_eq_true rfl)
  rw [lg_entry_eq]
  generalize (lg_sl ([.ref aM, .int x1, .int x2] : List Value) ++ List.replicate (5 - (lg_sl ([.ref aM, .int x1, .int x2] : List Value)).length) Slot.unset).toArray = ls at hl ⊢
  have hl : lv_has ls 5 [(0, .ref aM), (1, .int x1), (2, .int x2)] := hl
  refine gn_Q (hret := fun Q => ∀ (pc : Nat) (ls : Array Slot) (H : Heap) (locs : List Loc) (r : Int32) (m_wid : Int32) (m_hei : Int32) (m_stk : Nat → Int32) (m_laid : Nat → Int32), decode cX6_where pc = .ok (.ireturn, 1) → va_P (dC, dI) vwCl [(aM, .inr (5, [.ref aZ, .ref aPast, .int pastMany, .ref aKz, .int isKept, .ref aBuf, .int typed, .ref aStk, .ref aLaid, .int m_wid, .int m_hei, .ref aPcs, .ref aTold, .int toldMany, .int spot, .int wrong])), (aZ, .inl (cI, 207, .inl zz)), (aStk, .inl (cI, 64, .inl m_stk)), (aLaid, .inl (cI, 64, .inl m_laid))] H → va_D A [(aM, .inr (5, [.ref aZ, .ref aPast, .int pastMany, .ref aKz, .int isKept, .ref aBuf, .int typed, .ref aStk, .ref aLaid, .int m_wid, .int m_hei, .ref aPcs, .ref aTold, .int toldMany, .int spot, .int wrong])), (aZ, .inl (cI, 207, .inl zz)), (aStk, .inl (cI, 64, .inl m_stk)), (aLaid, .inl (cI, 64, .inl m_laid))] → va_S A s.heap H locs → post r m_wid m_hei m_stk m_laid → W p l e ({ frames := 4, cells := 0, slots := 0, locals := 94 } : Room) s m ([.ref aM, .int x1, .int x2] : List Value).toArray below meth c H locs 0 0 Q (F0 m pc ls [.int r])) (fun Q hret => ?_) ?_
  rotate_left
  · intro pc ls H locs r m_wid m_hei m_stk m_laid hdg hP hD hS hpost
    exact W.iret (v := r) hx hb hr (fun t ht hW => ⟨⟨r, (m_wid, m_hei, m_stk, m_laid), rfl, hpost, by rw [ht]; exact hP, va_K.moved hW.alike hK, hD⟩, hS.F ht⟩) hS.2.2 hdg
  refine lv_iload_n hx hb dX6_where_0 rfl (lv_at hl 1 rfl) ?_
  have hPc := hP.sub (ws' := []) [] rfl
  have hDc := hD.sub (ws' := []) [] (by decide) rfl
  have hFc := va_free (wc := []) hD hS hA [] rfl
  refine va_calli (va_runS (As := [.int x1]) (rest := []) ⟨hx, hb, hml, hown, hts⟩ (c_X6_isCell l dC dI cI cC cS _ x1 hq) (va_cwS 1 hts gX6_where_X6_isCell rfl rfl rfl (by decide +kernel) ⟨Nat.le_of_ble_eq_true rfl, Nat.le_of_ble_eq_true rfl⟩) (gn_preS hPc hK hN hDc) rfl rfl hl.1 rfl (lv_room (Nat.le_of_ble_eq_true rfl)) dX6_where_1 ⟨Nat.zero_le _, Nat.zero_le _⟩) hS (fun q _ h => hFc q h) hFc (fun r_1 u t H1 locs ht hvm hq hB hz1 hk1 hS => ?_)
  obtain ⟨hP1, hK1, hD1⟩ := hB
  rw [ht] at hP1
  try dsimp only at hq
  obtain ⟨hP, hD⟩ := va_join (wr := [(aM, .inr (5, [.ref aZ, .ref aPast, .int pastMany, .ref aKz, .int isKept, .ref aBuf, .int typed, .ref aStk, .ref aLaid, .int wid, .int hei, .ref aPcs, .ref aTold, .int toldMany, .int spot, .int wrong])), (aZ, .inl (cI, 207, .inl zz)), (aStk, .inl (cI, 64, .inl stk)), (aLaid, .inl (cI, 64, .inl laid))]) (w1 := []) hP hD [] [0, 1, 2, 3] rfl rfl (by decide) (by decide) hk1 hFc hP1 hD1
  have hP := hP.sub (ws' := [(aM, .inr (5, [.ref aZ, .ref aPast, .int pastMany, .ref aKz, .int isKept, .ref aBuf, .int typed, .ref aStk, .ref aLaid, .int wid, .int hei, .ref aPcs, .ref aTold, .int toldMany, .int spot, .int wrong])), (aZ, .inl (cI, 207, .inl zz)), (aStk, .inl (cI, 64, .inl stk)), (aLaid, .inl (cI, 64, .inl laid))]) [0, 1, 2, 3] rfl
  have hD := hD.sub (ws' := [(aM, .inr (5, [.ref aZ, .ref aPast, .int pastMany, .ref aKz, .int isKept, .ref aBuf, .int typed, .ref aStk, .ref aLaid, .int wid, .int hei, .ref aPcs, .ref aTold, .int toldMany, .int spot, .int wrong])), (aZ, .inl (cI, 207, .inl zz)), (aStk, .inl (cI, 64, .inl stk)), (aLaid, .inl (cI, 64, .inl laid))]) [0, 1, 2, 3] (by decide) rfl
  generalize H1 = H at hP hS ⊢
  refine lv_if_ne (tgt := 9) hx hb dX6_where_4 (by decide) (fun hc => ?_) (fun hc => ?_)
  · have hq := hq.1 hc
    refine lv_aload_n hx hb dX6_where_9 rfl (lv_at hl 0 rfl) ?_
    have hPc := hP.sub (ws' := [(aM, .inr (5, [.ref aZ, .ref aPast, .int pastMany, .ref aKz, .int isKept, .ref aBuf, .int typed, .ref aStk, .ref aLaid, .int wid, .int hei, .ref aPcs, .ref aTold, .int toldMany, .int spot, .int wrong])), (aZ, .inl (cI, 207, .inl zz)), (aStk, .inl (cI, 64, .inl stk)), (aLaid, .inl (cI, 64, .inl laid))]) [0, 1, 2, 3] rfl
    have hDc := hD.sub (ws' := [(aM, .inr (5, [.ref aZ, .ref aPast, .int pastMany, .ref aKz, .int isKept, .ref aBuf, .int typed, .ref aStk, .ref aLaid, .int wid, .int hei, .ref aPcs, .ref aTold, .int toldMany, .int spot, .int wrong])), (aZ, .inl (cI, 207, .inl zz)), (aStk, .inl (cI, 64, .inl stk)), (aLaid, .inl (cI, 64, .inl laid))]) [0, 1, 2, 3] (by decide) rfl
    have hFc := va_free (wc := [(aM, .inr (5, [.ref aZ, .ref aPast, .int pastMany, .ref aKz, .int isKept, .ref aBuf, .int typed, .ref aStk, .ref aLaid, .int wid, .int hei, .ref aPcs, .ref aTold, .int toldMany, .int spot, .int wrong])), (aZ, .inl (cI, 207, .inl zz)), (aStk, .inl (cI, 64, .inl stk)), (aLaid, .inl (cI, 64, .inl laid))]) hD hS hA [0, 1, 2, 3] rfl
    refine va_callv (va_runV (As := []) (rest := []) ⟨hx, hb, hml, hown, hts⟩ (c_X6_layNow l dC dI cI cC cS aM aZ aPast aKz aBuf aStk aLaid aPcs aTold _ pastMany isKept typed wid hei toldMany spot wrong zz stk laid hq) (cwV 0 hts gX6_where_X6_layNow rfl rfl rfl (by decide +kernel) ⟨Nat.le_of_ble_eq_true rfl, Nat.le_of_ble_eq_true rfl⟩) (gn_preV hPc hK hN hDc (ci := 5) (q0 := 0) rfl rfl) rfl rfl hl.1 rfl (lv_room (Nat.le_of_ble_eq_true rfl)) dX6_where_10 ⟨Nat.zero_le _, Nat.zero_le _⟩) hS (fun q _ h => hFc q h) hFc (fun u t H1 locs ht hvm hq hB hz1 hk1 hS => ?_)
    obtain ⟨wid__2, hei__3, stk__4, laid__5⟩ := u
    obtain ⟨hP1, hK1, hD1⟩ := hB
    rw [ht] at hP1
    try dsimp only at hq
    obtain ⟨hP, hD⟩ := va_join (wr := []) (w1 := [(aM, .inr (5, [.ref aZ, .ref aPast, .int pastMany, .ref aKz, .int isKept, .ref aBuf, .int typed, .ref aStk, .ref aLaid, .int wid__2, .int hei__3, .ref aPcs, .ref aTold, .int toldMany, .int spot, .int wrong])), (aZ, .inl (cI, 207, .inl zz)), (aStk, .inl (cI, 64, .inl stk__4)), (aLaid, .inl (cI, 64, .inl laid__5))]) hP hD [0, 1, 2, 3] [] rfl rfl (by decide) (by decide) hk1 hFc hP1 hD1
    have hP := hP.sub (ws' := [(aM, .inr (5, [.ref aZ, .ref aPast, .int pastMany, .ref aKz, .int isKept, .ref aBuf, .int typed, .ref aStk, .ref aLaid, .int wid__2, .int hei__3, .ref aPcs, .ref aTold, .int toldMany, .int spot, .int wrong])), (aZ, .inl (cI, 207, .inl zz)), (aStk, .inl (cI, 64, .inl stk__4)), (aLaid, .inl (cI, 64, .inl laid__5))]) [0, 1, 2, 3] rfl
    have hD := hD.sub (ws' := [(aM, .inr (5, [.ref aZ, .ref aPast, .int pastMany, .ref aKz, .int isKept, .ref aBuf, .int typed, .ref aStk, .ref aLaid, .int wid__2, .int hei__3, .ref aPcs, .ref aTold, .int toldMany, .int spot, .int wrong])), (aZ, .inl (cI, 207, .inl zz)), (aStk, .inl (cI, 64, .inl stk__4)), (aLaid, .inl (cI, 64, .inl laid__5))]) [0, 1, 2, 3] (by decide) rfl
    generalize H1 = H at hP hS ⊢
    refine lv_iconst (v := 0) hx hb dX6_where_13 (by decide) ?_
    refine lv_istore_n (lv' := [(3, .int (0 : Int32)), (0, .ref aM), (1, .int x1), (2, .int x2)]) hx hb dX6_where_14 rfl hl (by decide) rfl (fun ls hl => ?_)
    have hq := hq (fun (v3_6 : Int32) => ∀ (H : Heap) (locs : List Loc) (ls : Array Slot), va_P (dC, dI) vwCl [(aM, .inr (5, [.ref aZ, .ref aPast, .int pastMany, .ref aKz, .int isKept, .ref aBuf, .int typed, .ref aStk, .ref aLaid, .int wid__2, .int hei__3, .ref aPcs, .ref aTold, .int toldMany, .int spot, .int wrong])), (aZ, .inl (cI, 207, .inl zz)), (aStk, .inl (cI, 64, .inl stk__4)), (aLaid, .inl (cI, 64, .inl laid__5))] H → va_D A [(aM, .inr (5, [.ref aZ, .ref aPast, .int pastMany, .ref aKz, .int isKept, .ref aBuf, .int typed, .ref aStk, .ref aLaid, .int wid__2, .int hei__3, .ref aPcs, .ref aTold, .int toldMany, .int spot, .int wrong])), (aZ, .inl (cI, 207, .inl zz)), (aStk, .inl (cI, 64, .inl stk__4)), (aLaid, .inl (cI, 64, .inl laid__5))] → va_S A s.heap H locs → lv_has ls 5 [(0, .ref aM), (1, .int x1), (2, .int x2), (3, .int v3_6)] → W p l e ({ frames := 4, cells := 0, slots := 0, locals := 94 } : Room) s m ([.ref aM, .int x1, .int x2] : List Value).toArray below meth c H locs 0 0 Q (F0 m 15 ls [])) (by
      intro v3_6 hq H locs ls hP hD hS hl
      refine lv_aload_n hx hb dX6_where_15 rfl (lv_at hl 0 rfl) ?_
      refine va_get (D := (dC, dI)) (ci := 5) (v := .ref aStk) (C := RX6) (T := TX6) (N := 16) hx hb hts iwX6_where_X6 hown hK hP 0 rfl rfl 7 (by decide) (hts _ kwX6_where_23) (fun _ h9 => h9) rfl dX6_where_16 ?_
      refine lv_iload_n hx hb dX6_where_19 rfl (lv_at hl 3 rfl) ?_
      have hin := hq.1
      have hq := hq.2
      refine va_iald hx hb hK hP 2 0 rfl rfl hin dX6_where_20 ?_
      refine lv_iconst (v := 2) hx hb dX6_where_21 (by decide) ?_
      refine lv_idiv hx hb dX6_where_22 (by decide) ?_
      refine lv_iload_n hx hb dX6_where_23 rfl (lv_at hl 1 rfl) ?_
      refine lv_icmp_eq (tgt := 33) hx hb dX6_where_24 (by decide) (fun hc => ?_) (fun hc => ?_)
      · have hq := hq.1 hc
        refine lv_iload_n hx hb dX6_where_33 rfl (lv_at hl 3 rfl) ?_
        refine lv_aload_n hx hb dX6_where_34 rfl (lv_at hl 0 rfl) ?_
        have hPc := hP.sub (ws' := [(aM, .inr (5, [.ref aZ, .ref aPast, .int pastMany, .ref aKz, .int isKept, .ref aBuf, .int typed, .ref aStk, .ref aLaid, .int wid__2, .int hei__3, .ref aPcs, .ref aTold, .int toldMany, .int spot, .int wrong]))]) [0] rfl
        have hDc := hD.sub (ws' := [(aM, .inr (5, [.ref aZ, .ref aPast, .int pastMany, .ref aKz, .int isKept, .ref aBuf, .int typed, .ref aStk, .ref aLaid, .int wid__2, .int hei__3, .ref aPcs, .ref aTold, .int toldMany, .int spot, .int wrong]))]) [0] (by decide) rfl
        have hFc := va_free (wc := [(aM, .inr (5, [.ref aZ, .ref aPast, .int pastMany, .ref aKz, .int isKept, .ref aBuf, .int typed, .ref aStk, .ref aLaid, .int wid__2, .int hei__3, .ref aPcs, .ref aTold, .int toldMany, .int spot, .int wrong]))]) hD hS hA [0] rfl
        refine va_calli (va_runV (As := []) (rest := [.int v3_6]) ⟨hx, hb, hml, hown, hts⟩ (c_X6_layers l dC dI cI cC cS aM aZ aPast aKz aBuf aStk aLaid aPcs aTold _ pastMany isKept typed wid__2 hei__3 toldMany spot wrong hq) (cwV 0 hts gX6_where_X6_layers rfl rfl rfl (by decide +kernel) ⟨Nat.le_of_ble_eq_true rfl, Nat.le_of_ble_eq_true rfl⟩) (gn_preV hPc hK hN hDc (ci := 5) (q0 := 0) rfl rfl) rfl rfl hl.1 rfl (lv_room (Nat.le_of_ble_eq_true rfl)) dX6_where_35 ⟨Nat.zero_le _, Nat.zero_le _⟩) hS (fun q _ h => hFc q h) hFc (fun r_7 u t H1 locs ht hvm hq hB hz1 hk1 hS => ?_)
        obtain ⟨hP1, hK1, hD1⟩ := hB
        rw [ht] at hP1
        try dsimp only at hq
        obtain ⟨hP, hD⟩ := va_join (wr := [(aZ, .inl (cI, 207, .inl zz)), (aStk, .inl (cI, 64, .inl stk__4)), (aLaid, .inl (cI, 64, .inl laid__5))]) (w1 := [(aM, .inr (5, [.ref aZ, .ref aPast, .int pastMany, .ref aKz, .int isKept, .ref aBuf, .int typed, .ref aStk, .ref aLaid, .int wid__2, .int hei__3, .ref aPcs, .ref aTold, .int toldMany, .int spot, .int wrong]))]) hP hD [0] [1, 2, 3] rfl rfl (by decide) (by decide) hk1 hFc hP1 hD1
        have hP := hP.sub (ws' := [(aM, .inr (5, [.ref aZ, .ref aPast, .int pastMany, .ref aKz, .int isKept, .ref aBuf, .int typed, .ref aStk, .ref aLaid, .int wid__2, .int hei__3, .ref aPcs, .ref aTold, .int toldMany, .int spot, .int wrong])), (aZ, .inl (cI, 207, .inl zz)), (aStk, .inl (cI, 64, .inl stk__4)), (aLaid, .inl (cI, 64, .inl laid__5))]) [3, 0, 1, 2] rfl
        have hD := hD.sub (ws' := [(aM, .inr (5, [.ref aZ, .ref aPast, .int pastMany, .ref aKz, .int isKept, .ref aBuf, .int typed, .ref aStk, .ref aLaid, .int wid__2, .int hei__3, .ref aPcs, .ref aTold, .int toldMany, .int spot, .int wrong])), (aZ, .inl (cI, 207, .inl zz)), (aStk, .inl (cI, 64, .inl stk__4)), (aLaid, .inl (cI, 64, .inl laid__5))]) [3, 0, 1, 2] (by decide) rfl
        generalize H1 = H at hP hS ⊢
        have hz := hq.1
        have hq := hq.2
        refine lv_idiv hx hb dX6_where_38 hz ?_
        refine lv_topi (fun w4_8 ew4_8 => ?_)
        have hq := hq w4_8 ew4_8
        refine lv_istore (lv' := [(4, .int w4_8), (0, .ref aM), (1, .int x1), (2, .int x2), (3, .int v3_6)]) hx hb dX6_where_39 hl (by decide) rfl (fun ls hl => ?_)
        refine lv_iload_n hx hb dX6_where_41 rfl (lv_at hl 3 rfl) ?_
        rcases gn_sw (0) (3) x2 with hO | ⟨j, hj, hj2⟩
        · have hq := hq.1 hO
          refine lv_tableOut (tgt := 104) hx hb dX6_where_42 hO (by decide) ?_
          refine lv_bipush (v := -2) hx hb dX6_where_104 (by decide) ?_
          exact hret _ _ _ _ _ _ _ _ _ dX6_where_106 hP hD hS hq
        · have hq := hq.2
          have hj3 : j = 0 ∨ j = 1 ∨ j = 2 ∨ j = 3 := by omega
          rcases hj3 with rfl | rfl | rfl | rfl
          · have hc : x2 = (0 : Int32) := hj2.trans (by decide)
            have hq := hq.1 hc
            refine lv_tableIn (off := 30) (tgt := 72) hx hb dX6_where_42 (by rw [hc]; decide) (by rw [hc]; decide) (by rw [hc]; rfl) (by decide) ?_
            refine lv_iload hx hb dX6_where_72 (lv_at hl 0 rfl) ?_
            refine lv_aload_n hx hb dX6_where_74 rfl (lv_at hl 1 rfl) ?_
            refine va_get (D := (dC, dI)) (ci := 5) (v := .int wid__2) (C := RX6) (T := TX6) (N := 16) hx hb hts iwX6_where_X6 hown hK hP 0 rfl rfl 9 (by decide) (hts _ kwX6_where_46) (fun _ h9 => h9) rfl dX6_where_75 ?_
            have hz := hq.1
            have hq := hq.2
            refine lv_irem hx hb dX6_where_78 hz ?_
            exact hret _ _ _ _ _ _ _ _ _ dX6_where_79 hP hD hS hq
          · have hc : x2 = (1 : Int32) := hj2.trans (by decide)
            have hq := hq.2.1 hc
            refine lv_tableIn (off := 38) (tgt := 80) hx hb dX6_where_42 (by rw [hc]; decide) (by rw [hc]; decide) (by rw [hc]; rfl) (by decide) ?_
            refine lv_iload hx hb dX6_where_80 (lv_at hl 0 rfl) ?_
            refine lv_aload_n hx hb dX6_where_82 rfl (lv_at hl 1 rfl) ?_
            refine va_get (D := (dC, dI)) (ci := 5) (v := .int wid__2) (C := RX6) (T := TX6) (N := 16) hx hb hts iwX6_where_X6 hown hK hP 0 rfl rfl 9 (by decide) (hts _ kwX6_where_46) (fun _ h9 => h9) rfl dX6_where_83 ?_
            have hz := hq.1
            have hq := hq.2
            refine lv_idiv hx hb dX6_where_86 hz ?_
            exact hret _ _ _ _ _ _ _ _ _ dX6_where_87 hP hD hS hq
          · have hc : x2 = (2 : Int32) := hj2.trans (by decide)
            have hq := hq.2.2.1 hc
            refine lv_tableIn (off := 46) (tgt := 88) hx hb dX6_where_42 (by rw [hc]; decide) (by rw [hc]; decide) (by rw [hc]; rfl) (by decide) ?_
            refine lv_iload_n hx hb dX6_where_88 rfl (lv_at hl 4 rfl) ?_
            refine lv_aload_n hx hb dX6_where_89 rfl (lv_at hl 1 rfl) ?_
            have hPc := hP.sub (ws' := [(aM, .inr (5, [.ref aZ, .ref aPast, .int pastMany, .ref aKz, .int isKept, .ref aBuf, .int typed, .ref aStk, .ref aLaid, .int wid__2, .int hei__3, .ref aPcs, .ref aTold, .int toldMany, .int spot, .int wrong]))]) [0] rfl
            have hDc := hD.sub (ws' := [(aM, .inr (5, [.ref aZ, .ref aPast, .int pastMany, .ref aKz, .int isKept, .ref aBuf, .int typed, .ref aStk, .ref aLaid, .int wid__2, .int hei__3, .ref aPcs, .ref aTold, .int toldMany, .int spot, .int wrong]))]) [0] (by decide) rfl
            have hFc := va_free (wc := [(aM, .inr (5, [.ref aZ, .ref aPast, .int pastMany, .ref aKz, .int isKept, .ref aBuf, .int typed, .ref aStk, .ref aLaid, .int wid__2, .int hei__3, .ref aPcs, .ref aTold, .int toldMany, .int spot, .int wrong]))]) hD hS hA [0] rfl
            refine va_calli (va_runV (As := []) (rest := [.int v3_6]) ⟨hx, hb, hml, hown, hts⟩ (c_X6_layers l dC dI cI cC cS aM aZ aPast aKz aBuf aStk aLaid aPcs aTold _ pastMany isKept typed wid__2 hei__3 toldMany spot wrong hq) (cwV 0 hts gX6_where_X6_layers rfl rfl rfl (by decide +kernel) ⟨Nat.le_of_ble_eq_true rfl, Nat.le_of_ble_eq_true rfl⟩) (gn_preV hPc hK hN hDc (ci := 5) (q0 := 0) rfl rfl) rfl rfl hl.1 rfl (lv_room (Nat.le_of_ble_eq_true rfl)) dX6_where_90 ⟨Nat.zero_le _, Nat.zero_le _⟩) hS (fun q _ h => hFc q h) hFc (fun r_9 u t H1 locs ht hvm hq hB hz1 hk1 hS => ?_)
            obtain ⟨hP1, hK1, hD1⟩ := hB
            rw [ht] at hP1
            try dsimp only at hq
            obtain ⟨hP, hD⟩ := va_join (wr := [(aZ, .inl (cI, 207, .inl zz)), (aStk, .inl (cI, 64, .inl stk__4)), (aLaid, .inl (cI, 64, .inl laid__5))]) (w1 := [(aM, .inr (5, [.ref aZ, .ref aPast, .int pastMany, .ref aKz, .int isKept, .ref aBuf, .int typed, .ref aStk, .ref aLaid, .int wid__2, .int hei__3, .ref aPcs, .ref aTold, .int toldMany, .int spot, .int wrong]))]) hP hD [0] [1, 2, 3] rfl rfl (by decide) (by decide) hk1 hFc hP1 hD1
            have hP := hP.sub (ws' := [(aM, .inr (5, [.ref aZ, .ref aPast, .int pastMany, .ref aKz, .int isKept, .ref aBuf, .int typed, .ref aStk, .ref aLaid, .int wid__2, .int hei__3, .ref aPcs, .ref aTold, .int toldMany, .int spot, .int wrong])), (aZ, .inl (cI, 207, .inl zz)), (aStk, .inl (cI, 64, .inl stk__4)), (aLaid, .inl (cI, 64, .inl laid__5))]) [3, 0, 1, 2] rfl
            have hD := hD.sub (ws' := [(aM, .inr (5, [.ref aZ, .ref aPast, .int pastMany, .ref aKz, .int isKept, .ref aBuf, .int typed, .ref aStk, .ref aLaid, .int wid__2, .int hei__3, .ref aPcs, .ref aTold, .int toldMany, .int spot, .int wrong])), (aZ, .inl (cI, 207, .inl zz)), (aStk, .inl (cI, 64, .inl stk__4)), (aLaid, .inl (cI, 64, .inl laid__5))]) [3, 0, 1, 2] (by decide) rfl
            generalize H1 = H at hP hS ⊢
            have hz := hq.1
            have hq := hq.2
            refine lv_irem hx hb dX6_where_93 hz ?_
            exact hret _ _ _ _ _ _ _ _ _ dX6_where_94 hP hD hS hq
          · have hc : x2 = (3 : Int32) := hj2.trans (by decide)
            have hq := hq.2.2.2 hc
            refine lv_tableIn (off := 53) (tgt := 95) hx hb dX6_where_42 (by rw [hc]; decide) (by rw [hc]; decide) (by rw [hc]; rfl) (by decide) ?_
            refine lv_aload_n hx hb dX6_where_95 rfl (lv_at hl 1 rfl) ?_
            refine va_get (D := (dC, dI)) (ci := 5) (v := .ref aStk) (C := RX6) (T := TX6) (N := 16) hx hb hts iwX6_where_X6 hown hK hP 0 rfl rfl 7 (by decide) (hts _ kwX6_where_23) (fun _ h9 => h9) rfl dX6_where_96 ?_
            refine lv_iload_n hx hb dX6_where_99 rfl (lv_at hl 4 rfl) ?_
            have hin := hq.1
            have hq := hq.2
            refine va_iald hx hb hK hP 2 0 rfl rfl hin dX6_where_100 ?_
            refine lv_iconst (v := 2) hx hb dX6_where_101 (by decide) ?_
            refine lv_irem hx hb dX6_where_102 (by decide) ?_
            exact hret _ _ _ _ _ _ _ _ _ dX6_where_103 hP hD hS hq
      · have hq := hq.2 hc
        refine lv_iinc (v := (v3_6 + (1 : Int32))) (lv' := [(3, .int (v3_6 + (1 : Int32))), (0, .ref aM), (1, .int x1), (2, .int x2)]) hx hb dX6_where_27 hl (k := 3) rfl rfl (by decide) rfl (fun ls hl => ?_)
        refine lv_goto (tgt := 15) hx hb dX6_where_30 (by decide) ?_
        exact hq _ _ _ hP hD hS (lv_sub hl [1, 2, 3, 0] rfl))
    exact hq _ _ _ hP hD hS (lv_sub hl [1, 2, 3, 0] rfl)
  · have hq := hq.2 hc
    refine lv_iconst (v := -1) hx hb dX6_where_7 (by decide) ?_
    exact hret _ _ _ _ _ _ _ _ _ dX6_where_8 hP hD hS hq
set_option maxRecDepth 20000 in
theorem kwX6_colour_7 : Cond.fieldLink RX6 7 "PunchedFoldsModel" "z" "[I" ∈ wsX6_colour := by decide +kernel
set_option maxRecDepth 20000 in
theorem iwX6_colour_X6 : ∀ w ∈ wsX60, w ∈ wsX6_colour := by decide +kernel
set_option maxHeartbeats 4000000 in
set_option maxRecDepth 100000 in
theorem c_X6_colour (l : Launch) (dC : Nat → ClassId) (dI : Nat → Nat → Nat) (cI cC cS : ClassId) (aM : Nat) (aZ : Nat) (aPast : Nat) (aKz : Nat) (aBuf : Nat) (aStk : Nat) (aLaid : Nat) (aPcs : Nat) (aTold : Nat) (sz : Nat) (pastMany : Int32) (isKept : Int32) (typed : Int32) (wid : Int32) (hei : Int32) (toldMany : Int32) (spot : Int32) (wrong : Int32) (zz : Nat → Int32) (x1 : Int32) (x2 : Int32) {post : Int32 → Prop} (hq : wp_X6_colour zz x1 x2 post) : Met l yX6_colour wsX6_colour ({ frames := 2, cells := 0, slots := 0, locals := 42 } : Room) (gn_Pre (dC, dI) cI cC cS [.ref aM, .int x1, .int x2] sz [(aM, .inr (5, [.ref aZ, .ref aPast, .int pastMany, .ref aKz, .int isKept, .ref aBuf, .int typed, .ref aStk, .ref aLaid, .int wid, .int hei, .ref aPcs, .ref aTold, .int toldMany, .int spot, .int wrong])), (aZ, .inl (cI, 207, .inl zz))]) (va_Qi (fun (r : Int32) (u : Unit) => post r) (fun (u : Unit) t => va_P (dC, dI) vwCl [(aM, .inr (5, [.ref aZ, .ref aPast, .int pastMany, .ref aKz, .int isKept, .ref aBuf, .int typed, .ref aStk, .ref aLaid, .int wid, .int hei, .ref aPcs, .ref aTold, .int toldMany, .int spot, .int wrong])), (aZ, .inl (cI, 207, .inl zz))] t.heap ∧ va_K (dC, dI) vwCl (gn_tys cI cC cS) t ∧ va_D (va_A [(aM, .inr (5, [.ref aZ, .ref aPast, .int pastMany, .ref aKz, .int isKept, .ref aBuf, .int typed, .ref aStk, .ref aLaid, .int wid, .int hei, .ref aPcs, .ref aTold, .int toldMany, .int spot, .int wrong])), (aZ, .inl (cI, 207, .inl zz))] sz) [(aM, .inr (5, [.ref aZ, .ref aPast, .int pastMany, .ref aKz, .int isKept, .ref aBuf, .int typed, .ref aStk, .ref aLaid, .int wid, .int hei, .ref aPcs, .ref aTold, .int toldMany, .int spot, .int wrong])), (aZ, .inl (cI, 207, .inl zz))]) (va_A [(aM, .inr (5, [.ref aZ, .ref aPast, .int pastMany, .ref aKz, .int isKept, .ref aBuf, .int typed, .ref aStk, .ref aLaid, .int wid, .int hei, .ref aPcs, .ref aTold, .int toldMany, .int spot, .int wrong])), (aZ, .inl (cI, 207, .inl zz))] sz)) 0 0 (va_A [(aM, .inr (5, [.ref aZ, .ref aPast, .int pastMany, .ref aKz, .int isKept, .ref aBuf, .int typed, .ref aStk, .ref aLaid, .int wid, .int hei, .ref aPcs, .ref aTold, .int toldMany, .int spot, .int wrong])), (aZ, .inl (cI, 207, .inl zz))] sz) := by
  unfold wp_X6_colour at hq
  refine Met.ofW (cc := cX6_colour) (maxL := 3) (ret := (some .int)) (by decide) rfl ?_
  intro p e s m args below meth c s₁ B hml hv
  obtain ⟨rfl, hsz, hP, hK, hN, hD0⟩ := hv
  have hx := B.exec
  have hb := B.bytes
  have hr := B.returns
  have hts := atoms_spec (ws := wsX6_colour) B.pre
  have hown : s.vm.findClass RX6 = some m.cls := findClass_of_methodNamed B.named
  have hlocks := B.notSynchronized
  subst hsz
  have hD := hD0.self (sz := s.heap.size)
  generalize hAe : va_A [(aM, .inr (5, [.ref aZ, .ref aPast, .int pastMany, .ref aKz, .int isKept, .ref aBuf, .int typed, .ref aStk, .ref aLaid, .int wid, .int hei, .ref aPcs, .ref aTold, .int toldMany, .int spot, .int wrong])), (aZ, .inl (cI, 207, .inl zz))] s.heap.size = A at hD ⊢
  have hA : ∀ q : Nat, s.heap.size ≤ q → A q := fun q h => by rw [← hAe]; exact Or.inr h
  have hS : va_S A s.heap s.heap [] := va_S.rf
  have hl := lv_entry ([.ref aM, .int x1, .int x2] : List Value) (n := 3) (Nat.le_of_ble_eq_true rfl)
  rw [lg_entry_eq]
  generalize (lg_sl ([.ref aM, .int x1, .int x2] : List Value) ++ List.replicate (3 - (lg_sl ([.ref aM, .int x1, .int x2] : List Value)).length) Slot.unset).toArray = ls at hl ⊢
  have hl : lv_has ls 3 [(0, .ref aM), (1, .int x1), (2, .int x2)] := hl
  refine gn_Q (hret := fun Q => ∀ (pc : Nat) (ls : Array Slot) (H : Heap) (locs : List Loc) (r : Int32) , decode cX6_colour pc = .ok (.ireturn, 1) → va_P (dC, dI) vwCl [(aM, .inr (5, [.ref aZ, .ref aPast, .int pastMany, .ref aKz, .int isKept, .ref aBuf, .int typed, .ref aStk, .ref aLaid, .int wid, .int hei, .ref aPcs, .ref aTold, .int toldMany, .int spot, .int wrong])), (aZ, .inl (cI, 207, .inl zz))] H → va_D A [(aM, .inr (5, [.ref aZ, .ref aPast, .int pastMany, .ref aKz, .int isKept, .ref aBuf, .int typed, .ref aStk, .ref aLaid, .int wid, .int hei, .ref aPcs, .ref aTold, .int toldMany, .int spot, .int wrong])), (aZ, .inl (cI, 207, .inl zz))] → va_S A s.heap H locs → post r → W p l e ({ frames := 2, cells := 0, slots := 0, locals := 42 } : Room) s m ([.ref aM, .int x1, .int x2] : List Value).toArray below meth c H locs 0 0 Q (F0 m pc ls [.int r])) (fun Q hret => ?_) ?_
  rotate_left
  · intro pc ls H locs r hdg hP hD hS hpost
    exact W.iret (v := r) hx hb hr (fun t ht hW => ⟨⟨r, (), rfl, hpost, by rw [ht]; exact hP, va_K.moved hW.alike hK, hD⟩, hS.F ht⟩) hS.2.2 hdg
  refine lv_iload_n hx hb dX6_colour_0 rfl (lv_at hl 1 rfl) ?_
  have hPc := hP.sub (ws' := []) [] rfl
  have hDc := hD.sub (ws' := []) [] (by decide) rfl
  have hFc := va_free (wc := []) hD hS hA [] rfl
  refine va_calli (va_runS (As := [.int x1]) (rest := []) ⟨hx, hb, hml, hown, hts⟩ (c_X6_isCell l dC dI cI cC cS _ x1 hq) (va_cwS 1 hts gX6_colour_X6_isCell rfl rfl rfl (by decide +kernel) ⟨Nat.le_of_ble_eq_true rfl, Nat.le_of_ble_eq_true rfl⟩) (gn_preS hPc hK hN hDc) rfl rfl hl.1 rfl (lv_room (Nat.le_of_ble_eq_true rfl)) dX6_colour_1 ⟨Nat.zero_le _, Nat.zero_le _⟩) hS (fun q _ h => hFc q h) hFc (fun r_1 u t H1 locs ht hvm hq hB hz1 hk1 hS => ?_)
  obtain ⟨hP1, hK1, hD1⟩ := hB
  rw [ht] at hP1
  try dsimp only at hq
  obtain ⟨hP, hD⟩ := va_join (wr := [(aM, .inr (5, [.ref aZ, .ref aPast, .int pastMany, .ref aKz, .int isKept, .ref aBuf, .int typed, .ref aStk, .ref aLaid, .int wid, .int hei, .ref aPcs, .ref aTold, .int toldMany, .int spot, .int wrong])), (aZ, .inl (cI, 207, .inl zz))]) (w1 := []) hP hD [] [0, 1] rfl rfl (by decide) (by decide) hk1 hFc hP1 hD1
  have hP := hP.sub (ws' := [(aM, .inr (5, [.ref aZ, .ref aPast, .int pastMany, .ref aKz, .int isKept, .ref aBuf, .int typed, .ref aStk, .ref aLaid, .int wid, .int hei, .ref aPcs, .ref aTold, .int toldMany, .int spot, .int wrong])), (aZ, .inl (cI, 207, .inl zz))]) [0, 1] rfl
  have hD := hD.sub (ws' := [(aM, .inr (5, [.ref aZ, .ref aPast, .int pastMany, .ref aKz, .int isKept, .ref aBuf, .int typed, .ref aStk, .ref aLaid, .int wid, .int hei, .ref aPcs, .ref aTold, .int toldMany, .int spot, .int wrong])), (aZ, .inl (cI, 207, .inl zz))]) [0, 1] (by decide) rfl
  generalize H1 = H at hP hS ⊢
  refine lv_if_ne (tgt := 9) hx hb dX6_colour_4 (by decide) (fun hc => ?_) (fun hc => ?_)
  · have hq := hq.1 hc
    refine lv_iload_n hx hb dX6_colour_9 rfl (lv_at hl 2 rfl) ?_
    refine lv_iconst (v := 0) hx hb dX6_colour_10 (by decide) ?_
    refine lv_iconst (v := 1) hx hb dX6_colour_11 (by decide) ?_
    have hPc := hP.sub (ws' := []) [] rfl
    have hDc := hD.sub (ws' := []) [] (by decide) rfl
    have hFc := va_free (wc := []) hD hS hA [] rfl
    refine va_calli (va_runS (As := [.int x2, .int (0 : Int32), .int (1 : Int32)]) (rest := []) ⟨hx, hb, hml, hown, hts⟩ (c_X6_in l dC dI cI cC cS _ x2 (0 : Int32) (1 : Int32) hq) (va_cwS 3 hts gX6_colour_X6_in rfl rfl rfl (by decide +kernel) ⟨Nat.le_of_ble_eq_true rfl, Nat.le_of_ble_eq_true rfl⟩) (gn_preS hPc hK hN hDc) rfl rfl hl.1 rfl (lv_room (Nat.le_of_ble_eq_true rfl)) dX6_colour_12 ⟨Nat.zero_le _, Nat.zero_le _⟩) hS (fun q _ h => hFc q h) hFc (fun r_2 u t H1 locs ht hvm hq hB hz1 hk1 hS => ?_)
    obtain ⟨hP1, hK1, hD1⟩ := hB
    rw [ht] at hP1
    try dsimp only at hq
    obtain ⟨hP, hD⟩ := va_join (wr := [(aM, .inr (5, [.ref aZ, .ref aPast, .int pastMany, .ref aKz, .int isKept, .ref aBuf, .int typed, .ref aStk, .ref aLaid, .int wid, .int hei, .ref aPcs, .ref aTold, .int toldMany, .int spot, .int wrong])), (aZ, .inl (cI, 207, .inl zz))]) (w1 := []) hP hD [] [0, 1] rfl rfl (by decide) (by decide) hk1 hFc hP1 hD1
    have hP := hP.sub (ws' := [(aM, .inr (5, [.ref aZ, .ref aPast, .int pastMany, .ref aKz, .int isKept, .ref aBuf, .int typed, .ref aStk, .ref aLaid, .int wid, .int hei, .ref aPcs, .ref aTold, .int toldMany, .int spot, .int wrong])), (aZ, .inl (cI, 207, .inl zz))]) [0, 1] rfl
    have hD := hD.sub (ws' := [(aM, .inr (5, [.ref aZ, .ref aPast, .int pastMany, .ref aKz, .int isKept, .ref aBuf, .int typed, .ref aStk, .ref aLaid, .int wid, .int hei, .ref aPcs, .ref aTold, .int toldMany, .int spot, .int wrong])), (aZ, .inl (cI, 207, .inl zz))]) [0, 1] (by decide) rfl
    generalize H1 = H at hP hS ⊢
    refine lv_if_eq (tgt := 34) hx hb dX6_colour_15 (by decide) (fun hc => ?_) (fun hc => ?_)
    · have hq := hq.1 hc
      refine lv_bipush (v := -2) hx hb dX6_colour_34 (by decide) ?_
      exact hret _ _ _ _ _ dX6_colour_36 hP hD hS hq
    · have hq := hq.2 hc
      refine lv_aload_n hx hb dX6_colour_18 rfl (lv_at hl 0 rfl) ?_
      refine va_get (D := (dC, dI)) (ci := 5) (v := .ref aZ) (C := RX6) (T := TX6) (N := 16) hx hb hts iwX6_colour_X6 hown hK hP 0 rfl rfl 0 (by decide) (hts _ kwX6_colour_7) (fun _ h9 => h9) rfl dX6_colour_19 ?_
      refine lv_bipush (v := 71) hx hb dX6_colour_22 (by decide) ?_
      refine lv_iconst (v := 2) hx hb dX6_colour_24 (by decide) ?_
      refine lv_iload_n hx hb dX6_colour_25 rfl (lv_at hl 1 rfl) ?_
      refine lv_imul hx hb dX6_colour_26 ?_
      refine lv_iadd hx hb dX6_colour_27 ?_
      refine lv_iload_n hx hb dX6_colour_28 rfl (lv_at hl 2 rfl) ?_
      refine lv_iadd hx hb dX6_colour_29 ?_
      have hin := hq.1
      have hq := hq.2
      refine va_iald hx hb hK hP 1 0 rfl rfl hin dX6_colour_30 ?_
      refine lv_goto (tgt := 36) hx hb dX6_colour_31 (by decide) ?_
      exact hret _ _ _ _ _ dX6_colour_36 hP hD hS hq
  · have hq := hq.2 hc
    refine lv_iconst (v := -1) hx hb dX6_colour_7 (by decide) ?_
    exact hret _ _ _ _ _ dX6_colour_8 hP hD hS hq
set_option maxRecDepth 20000 in
theorem kwX6_hole_7 : Cond.fieldLink RX6 7 "PunchedFoldsModel" "z" "[I" ∈ wsX6_hole := by decide +kernel
set_option maxRecDepth 20000 in
theorem iwX6_hole_X6 : ∀ w ∈ wsX60, w ∈ wsX6_hole := by decide +kernel
set_option maxHeartbeats 4000000 in
set_option maxRecDepth 100000 in
theorem c_X6_hole (l : Launch) (dC : Nat → ClassId) (dI : Nat → Nat → Nat) (cI cC cS : ClassId) (aM : Nat) (aZ : Nat) (aPast : Nat) (aKz : Nat) (aBuf : Nat) (aStk : Nat) (aLaid : Nat) (aPcs : Nat) (aTold : Nat) (sz : Nat) (pastMany : Int32) (isKept : Int32) (typed : Int32) (wid : Int32) (hei : Int32) (toldMany : Int32) (spot : Int32) (wrong : Int32) (zz : Nat → Int32) (x1 : Int32) (x2 : Int32) {post : Int32 → Prop} (hq : wp_X6_hole zz x1 x2 post) : Met l yX6_hole wsX6_hole ({ frames := 0, cells := 0, slots := 0, locals := 0 } : Room) (gn_Pre (dC, dI) cI cC cS [.ref aM, .int x1, .int x2] sz [(aM, .inr (5, [.ref aZ, .ref aPast, .int pastMany, .ref aKz, .int isKept, .ref aBuf, .int typed, .ref aStk, .ref aLaid, .int wid, .int hei, .ref aPcs, .ref aTold, .int toldMany, .int spot, .int wrong])), (aZ, .inl (cI, 207, .inl zz))]) (va_Qi (fun (r : Int32) (u : Unit) => post r) (fun (u : Unit) t => va_P (dC, dI) vwCl [(aM, .inr (5, [.ref aZ, .ref aPast, .int pastMany, .ref aKz, .int isKept, .ref aBuf, .int typed, .ref aStk, .ref aLaid, .int wid, .int hei, .ref aPcs, .ref aTold, .int toldMany, .int spot, .int wrong])), (aZ, .inl (cI, 207, .inl zz))] t.heap ∧ va_K (dC, dI) vwCl (gn_tys cI cC cS) t ∧ va_D (va_A [(aM, .inr (5, [.ref aZ, .ref aPast, .int pastMany, .ref aKz, .int isKept, .ref aBuf, .int typed, .ref aStk, .ref aLaid, .int wid, .int hei, .ref aPcs, .ref aTold, .int toldMany, .int spot, .int wrong])), (aZ, .inl (cI, 207, .inl zz))] sz) [(aM, .inr (5, [.ref aZ, .ref aPast, .int pastMany, .ref aKz, .int isKept, .ref aBuf, .int typed, .ref aStk, .ref aLaid, .int wid, .int hei, .ref aPcs, .ref aTold, .int toldMany, .int spot, .int wrong])), (aZ, .inl (cI, 207, .inl zz))]) (va_A [(aM, .inr (5, [.ref aZ, .ref aPast, .int pastMany, .ref aKz, .int isKept, .ref aBuf, .int typed, .ref aStk, .ref aLaid, .int wid, .int hei, .ref aPcs, .ref aTold, .int toldMany, .int spot, .int wrong])), (aZ, .inl (cI, 207, .inl zz))] sz)) 0 0 (va_A [(aM, .inr (5, [.ref aZ, .ref aPast, .int pastMany, .ref aKz, .int isKept, .ref aBuf, .int typed, .ref aStk, .ref aLaid, .int wid, .int hei, .ref aPcs, .ref aTold, .int toldMany, .int spot, .int wrong])), (aZ, .inl (cI, 207, .inl zz))] sz) := by
  unfold wp_X6_hole at hq
  refine Met.ofW (cc := cX6_hole) (maxL := 3) (ret := (some .int)) (by decide) rfl ?_
  intro p e s m args below meth c s₁ B hml hv
  obtain ⟨rfl, hsz, hP, hK, hN, hD0⟩ := hv
  have hx := B.exec
  have hb := B.bytes
  have hr := B.returns
  have hts := atoms_spec (ws := wsX6_hole) B.pre
  have hown : s.vm.findClass RX6 = some m.cls := findClass_of_methodNamed B.named
  have hlocks := B.notSynchronized
  subst hsz
  have hD := hD0.self (sz := s.heap.size)
  generalize hAe : va_A [(aM, .inr (5, [.ref aZ, .ref aPast, .int pastMany, .ref aKz, .int isKept, .ref aBuf, .int typed, .ref aStk, .ref aLaid, .int wid, .int hei, .ref aPcs, .ref aTold, .int toldMany, .int spot, .int wrong])), (aZ, .inl (cI, 207, .inl zz))] s.heap.size = A at hD ⊢
  have hA : ∀ q : Nat, s.heap.size ≤ q → A q := fun q h => by rw [← hAe]; exact Or.inr h
  have hS : va_S A s.heap s.heap [] := va_S.rf
  have hl := lv_entry ([.ref aM, .int x1, .int x2] : List Value) (n := 3) (Nat.le_of_ble_eq_true rfl)
  rw [lg_entry_eq]
  generalize (lg_sl ([.ref aM, .int x1, .int x2] : List Value) ++ List.replicate (3 - (lg_sl ([.ref aM, .int x1, .int x2] : List Value)).length) Slot.unset).toArray = ls at hl ⊢
  have hl : lv_has ls 3 [(0, .ref aM), (1, .int x1), (2, .int x2)] := hl
  refine gn_Q (hret := fun Q => ∀ (pc : Nat) (ls : Array Slot) (H : Heap) (locs : List Loc) (r : Int32) , decode cX6_hole pc = .ok (.ireturn, 1) → va_P (dC, dI) vwCl [(aM, .inr (5, [.ref aZ, .ref aPast, .int pastMany, .ref aKz, .int isKept, .ref aBuf, .int typed, .ref aStk, .ref aLaid, .int wid, .int hei, .ref aPcs, .ref aTold, .int toldMany, .int spot, .int wrong])), (aZ, .inl (cI, 207, .inl zz))] H → va_D A [(aM, .inr (5, [.ref aZ, .ref aPast, .int pastMany, .ref aKz, .int isKept, .ref aBuf, .int typed, .ref aStk, .ref aLaid, .int wid, .int hei, .ref aPcs, .ref aTold, .int toldMany, .int spot, .int wrong])), (aZ, .inl (cI, 207, .inl zz))] → va_S A s.heap H locs → post r → W p l e ({ frames := 0, cells := 0, slots := 0, locals := 0 } : Room) s m ([.ref aM, .int x1, .int x2] : List Value).toArray below meth c H locs 0 0 Q (F0 m pc ls [.int r])) (fun Q hret => ?_) ?_
  rotate_left
  · intro pc ls H locs r hdg hP hD hS hpost
    exact W.iret (v := r) hx hb hr (fun t ht hW => ⟨⟨r, (), rfl, hpost, by rw [ht]; exact hP, va_K.moved hW.alike hK, hD⟩, hS.F ht⟩) hS.2.2 hdg
  refine lv_aload_n hx hb dX6_hole_0 rfl (lv_at hl 0 rfl) ?_
  refine va_get (D := (dC, dI)) (ci := 5) (v := .ref aZ) (C := RX6) (T := TX6) (N := 16) hx hb hts iwX6_hole_X6 hown hK hP 0 rfl rfl 0 (by decide) (hts _ kwX6_hole_7) (fun _ h9 => h9) rfl dX6_hole_1 ?_
  refine lv_bipush (v := 7) hx hb dX6_hole_4 (by decide) ?_
  refine lv_bipush (v := 8) hx hb dX6_hole_6 (by decide) ?_
  refine lv_iload_n hx hb dX6_hole_8 rfl (lv_at hl 2 rfl) ?_
  refine lv_imul hx hb dX6_hole_9 ?_
  refine lv_iadd hx hb dX6_hole_10 ?_
  refine lv_iload_n hx hb dX6_hole_11 rfl (lv_at hl 1 rfl) ?_
  refine lv_iadd hx hb dX6_hole_12 ?_
  have hin := hq.1
  have hq := hq.2
  refine va_iald hx hb hK hP 1 0 rfl rfl hin dX6_hole_13 ?_
  exact hret _ _ _ _ _ dX6_hole_14 hP hD hS hq
set_option maxHeartbeats 4000000 in
set_option maxRecDepth 100000 in
theorem c_X6_holes (l : Launch) (dC : Nat → ClassId) (dI : Nat → Nat → Nat) (cI cC cS : ClassId) (aM : Nat) (aZ : Nat) (aPast : Nat) (aKz : Nat) (aBuf : Nat) (aStk : Nat) (aLaid : Nat) (aPcs : Nat) (aTold : Nat) (sz : Nat) (pastMany : Int32) (isKept : Int32) (typed : Int32) (wid : Int32) (hei : Int32) (toldMany : Int32) (spot : Int32) (wrong : Int32) (zz : Nat → Int32) (x1 : Int32) {post : Int32 → Prop} (hq : wp_X6_holes zz x1 post) : Met l yX6_holes wsX6_holes ({ frames := 1, cells := 0, slots := 0, locals := 22 } : Room) (gn_Pre (dC, dI) cI cC cS [.ref aM, .int x1] sz [(aM, .inr (5, [.ref aZ, .ref aPast, .int pastMany, .ref aKz, .int isKept, .ref aBuf, .int typed, .ref aStk, .ref aLaid, .int wid, .int hei, .ref aPcs, .ref aTold, .int toldMany, .int spot, .int wrong])), (aZ, .inl (cI, 207, .inl zz))]) (va_Qi (fun (r : Int32) (u : Unit) => post r) (fun (u : Unit) t => va_P (dC, dI) vwCl [(aM, .inr (5, [.ref aZ, .ref aPast, .int pastMany, .ref aKz, .int isKept, .ref aBuf, .int typed, .ref aStk, .ref aLaid, .int wid, .int hei, .ref aPcs, .ref aTold, .int toldMany, .int spot, .int wrong])), (aZ, .inl (cI, 207, .inl zz))] t.heap ∧ va_K (dC, dI) vwCl (gn_tys cI cC cS) t ∧ va_D (va_A [(aM, .inr (5, [.ref aZ, .ref aPast, .int pastMany, .ref aKz, .int isKept, .ref aBuf, .int typed, .ref aStk, .ref aLaid, .int wid, .int hei, .ref aPcs, .ref aTold, .int toldMany, .int spot, .int wrong])), (aZ, .inl (cI, 207, .inl zz))] sz) [(aM, .inr (5, [.ref aZ, .ref aPast, .int pastMany, .ref aKz, .int isKept, .ref aBuf, .int typed, .ref aStk, .ref aLaid, .int wid, .int hei, .ref aPcs, .ref aTold, .int toldMany, .int spot, .int wrong])), (aZ, .inl (cI, 207, .inl zz))]) (va_A [(aM, .inr (5, [.ref aZ, .ref aPast, .int pastMany, .ref aKz, .int isKept, .ref aBuf, .int typed, .ref aStk, .ref aLaid, .int wid, .int hei, .ref aPcs, .ref aTold, .int toldMany, .int spot, .int wrong])), (aZ, .inl (cI, 207, .inl zz))] sz)) 0 0 (va_A [(aM, .inr (5, [.ref aZ, .ref aPast, .int pastMany, .ref aKz, .int isKept, .ref aBuf, .int typed, .ref aStk, .ref aLaid, .int wid, .int hei, .ref aPcs, .ref aTold, .int toldMany, .int spot, .int wrong])), (aZ, .inl (cI, 207, .inl zz))] sz) := by
  unfold wp_X6_holes at hq
  refine Met.ofW (cc := cX6_holes) (maxL := 4) (ret := (some .int)) (by decide) rfl ?_
  intro p e s m args below meth c s₁ B hml hv
  obtain ⟨rfl, hsz, hP, hK, hN, hD0⟩ := hv
  have hx := B.exec
  have hb := B.bytes
  have hr := B.returns
  have hts := atoms_spec (ws := wsX6_holes) B.pre
  have hown : s.vm.findClass RX6 = some m.cls := findClass_of_methodNamed B.named
  have hlocks := B.notSynchronized
  subst hsz
  have hD := hD0.self (sz := s.heap.size)
  generalize hAe : va_A [(aM, .inr (5, [.ref aZ, .ref aPast, .int pastMany, .ref aKz, .int isKept, .ref aBuf, .int typed, .ref aStk, .ref aLaid, .int wid, .int hei, .ref aPcs, .ref aTold, .int toldMany, .int spot, .int wrong])), (aZ, .inl (cI, 207, .inl zz))] s.heap.size = A at hD ⊢
  have hA : ∀ q : Nat, s.heap.size ≤ q → A q := fun q h => by rw [← hAe]; exact Or.inr h
  have hS : va_S A s.heap s.heap [] := va_S.rf
  have hl := lv_entry ([.ref aM, .int x1] : List Value) (n := 4) (Nat.le_of_ble_eq_true rfl)
  rw [lg_entry_eq]
  generalize (lg_sl ([.ref aM, .int x1] : List Value) ++ List.replicate (4 - (lg_sl ([.ref aM, .int x1] : List Value)).length) Slot.unset).toArray = ls at hl ⊢
  have hl : lv_has ls 4 [(0, .ref aM), (1, .int x1)] := hl
  refine gn_Q (hret := fun Q => ∀ (pc : Nat) (ls : Array Slot) (H : Heap) (locs : List Loc) (r : Int32) , decode cX6_holes pc = .ok (.ireturn, 1) → va_P (dC, dI) vwCl [(aM, .inr (5, [.ref aZ, .ref aPast, .int pastMany, .ref aKz, .int isKept, .ref aBuf, .int typed, .ref aStk, .ref aLaid, .int wid, .int hei, .ref aPcs, .ref aTold, .int toldMany, .int spot, .int wrong])), (aZ, .inl (cI, 207, .inl zz))] H → va_D A [(aM, .inr (5, [.ref aZ, .ref aPast, .int pastMany, .ref aKz, .int isKept, .ref aBuf, .int typed, .ref aStk, .ref aLaid, .int wid, .int hei, .ref aPcs, .ref aTold, .int toldMany, .int spot, .int wrong])), (aZ, .inl (cI, 207, .inl zz))] → va_S A s.heap H locs → post r → W p l e ({ frames := 1, cells := 0, slots := 0, locals := 22 } : Room) s m ([.ref aM, .int x1] : List Value).toArray below meth c H locs 0 0 Q (F0 m pc ls [.int r])) (fun Q hret => ?_) ?_
  rotate_left
  · intro pc ls H locs r hdg hP hD hS hpost
    exact W.iret (v := r) hx hb hr (fun t ht hW => ⟨⟨r, (), rfl, hpost, by rw [ht]; exact hP, va_K.moved hW.alike hK, hD⟩, hS.F ht⟩) hS.2.2 hdg
  refine lv_iload_n hx hb dX6_holes_0 rfl (lv_at hl 1 rfl) ?_
  refine lv_iconst (v := 0) hx hb dX6_holes_1 (by decide) ?_
  refine lv_bipush (v := 7) hx hb dX6_holes_2 (by decide) ?_
  have hPc := hP.sub (ws' := []) [] rfl
  have hDc := hD.sub (ws' := []) [] (by decide) rfl
  have hFc := va_free (wc := []) hD hS hA [] rfl
  refine va_calli (va_runS (As := [.int x1, .int (0 : Int32), .int (7 : Int32)]) (rest := []) ⟨hx, hb, hml, hown, hts⟩ (c_X6_in l dC dI cI cC cS _ x1 (0 : Int32) (7 : Int32) hq) (va_cwS 3 hts gX6_holes_X6_in rfl rfl rfl (by decide +kernel) ⟨Nat.le_of_ble_eq_true rfl, Nat.le_of_ble_eq_true rfl⟩) (gn_preS hPc hK hN hDc) rfl rfl hl.1 rfl (lv_room (Nat.le_of_ble_eq_true rfl)) dX6_holes_4 ⟨Nat.zero_le _, Nat.zero_le _⟩) hS (fun q _ h => hFc q h) hFc (fun r_1 u t H1 locs ht hvm hq hB hz1 hk1 hS => ?_)
  obtain ⟨hP1, hK1, hD1⟩ := hB
  rw [ht] at hP1
  try dsimp only at hq
  obtain ⟨hP, hD⟩ := va_join (wr := [(aM, .inr (5, [.ref aZ, .ref aPast, .int pastMany, .ref aKz, .int isKept, .ref aBuf, .int typed, .ref aStk, .ref aLaid, .int wid, .int hei, .ref aPcs, .ref aTold, .int toldMany, .int spot, .int wrong])), (aZ, .inl (cI, 207, .inl zz))]) (w1 := []) hP hD [] [0, 1] rfl rfl (by decide) (by decide) hk1 hFc hP1 hD1
  have hP := hP.sub (ws' := [(aM, .inr (5, [.ref aZ, .ref aPast, .int pastMany, .ref aKz, .int isKept, .ref aBuf, .int typed, .ref aStk, .ref aLaid, .int wid, .int hei, .ref aPcs, .ref aTold, .int toldMany, .int spot, .int wrong])), (aZ, .inl (cI, 207, .inl zz))]) [0, 1] rfl
  have hD := hD.sub (ws' := [(aM, .inr (5, [.ref aZ, .ref aPast, .int pastMany, .ref aKz, .int isKept, .ref aBuf, .int typed, .ref aStk, .ref aLaid, .int wid, .int hei, .ref aPcs, .ref aTold, .int toldMany, .int spot, .int wrong])), (aZ, .inl (cI, 207, .inl zz))]) [0, 1] (by decide) rfl
  generalize H1 = H at hP hS ⊢
  refine lv_if_ne (tgt := 12) hx hb dX6_holes_7 (by decide) (fun hc => ?_) (fun hc => ?_)
  · have hq := hq.1 hc
    refine lv_iconst (v := 0) hx hb dX6_holes_12 (by decide) ?_
    refine lv_istore_n (lv' := [(2, .int (0 : Int32)), (0, .ref aM), (1, .int x1)]) hx hb dX6_holes_13 rfl hl (by decide) rfl (fun ls hl => ?_)
    refine lv_iconst (v := 0) hx hb dX6_holes_14 (by decide) ?_
    refine lv_istore_n (lv' := [(3, .int (0 : Int32)), (2, .int (0 : Int32)), (0, .ref aM), (1, .int x1)]) hx hb dX6_holes_15 rfl hl (by decide) rfl (fun ls hl => ?_)
    have hq := hq (fun (v2_2 : Int32) (v3_3 : Int32) => ∀ (H : Heap) (locs : List Loc) (ls : Array Slot), va_P (dC, dI) vwCl [(aM, .inr (5, [.ref aZ, .ref aPast, .int pastMany, .ref aKz, .int isKept, .ref aBuf, .int typed, .ref aStk, .ref aLaid, .int wid, .int hei, .ref aPcs, .ref aTold, .int toldMany, .int spot, .int wrong])), (aZ, .inl (cI, 207, .inl zz))] H → va_D A [(aM, .inr (5, [.ref aZ, .ref aPast, .int pastMany, .ref aKz, .int isKept, .ref aBuf, .int typed, .ref aStk, .ref aLaid, .int wid, .int hei, .ref aPcs, .ref aTold, .int toldMany, .int spot, .int wrong])), (aZ, .inl (cI, 207, .inl zz))] → va_S A s.heap H locs → lv_has ls 4 [(0, .ref aM), (1, .int x1), (2, .int v2_2), (3, .int v3_3)] → W p l e ({ frames := 1, cells := 0, slots := 0, locals := 22 } : Room) s m ([.ref aM, .int x1] : List Value).toArray below meth c H locs 0 0 Q (F0 m 16 ls [])) (by
      intro v2_2 v3_3 hq H locs ls hP hD hS hl
      refine lv_iload_n hx hb dX6_holes_16 rfl (lv_at hl 3 rfl) ?_
      refine lv_bipush (v := 8) hx hb dX6_holes_17 (by decide) ?_
      refine lv_icmp_ge (tgt := 39) hx hb dX6_holes_19 (by decide) (fun hc => ?_) (fun hc => ?_)
      · have hq := hq.1 hc
        refine lv_iload_n hx hb dX6_holes_39 rfl (lv_at hl 2 rfl) ?_
        exact hret _ _ _ _ _ dX6_holes_40 hP hD hS hq
      · have hq := hq.2 hc
        refine lv_iload_n hx hb dX6_holes_22 rfl (lv_at hl 2 rfl) ?_
        refine lv_aload_n hx hb dX6_holes_23 rfl (lv_at hl 0 rfl) ?_
        refine lv_iload_n hx hb dX6_holes_24 rfl (lv_at hl 3 rfl) ?_
        refine lv_iload_n hx hb dX6_holes_25 rfl (lv_at hl 1 rfl) ?_
        have hPc := hP.sub (ws' := [(aM, .inr (5, [.ref aZ, .ref aPast, .int pastMany, .ref aKz, .int isKept, .ref aBuf, .int typed, .ref aStk, .ref aLaid, .int wid, .int hei, .ref aPcs, .ref aTold, .int toldMany, .int spot, .int wrong])), (aZ, .inl (cI, 207, .inl zz))]) [0, 1] rfl
        have hDc := hD.sub (ws' := [(aM, .inr (5, [.ref aZ, .ref aPast, .int pastMany, .ref aKz, .int isKept, .ref aBuf, .int typed, .ref aStk, .ref aLaid, .int wid, .int hei, .ref aPcs, .ref aTold, .int toldMany, .int spot, .int wrong])), (aZ, .inl (cI, 207, .inl zz))]) [0, 1] (by decide) rfl
        have hFc := va_free (wc := [(aM, .inr (5, [.ref aZ, .ref aPast, .int pastMany, .ref aKz, .int isKept, .ref aBuf, .int typed, .ref aStk, .ref aLaid, .int wid, .int hei, .ref aPcs, .ref aTold, .int toldMany, .int spot, .int wrong])), (aZ, .inl (cI, 207, .inl zz))]) hD hS hA [0, 1] rfl
        refine va_calli (va_runV (As := [.int v3_3, .int x1]) (rest := [.int v2_2]) ⟨hx, hb, hml, hown, hts⟩ (c_X6_hole l dC dI cI cC cS aM aZ aPast aKz aBuf aStk aLaid aPcs aTold _ pastMany isKept typed wid hei toldMany spot wrong zz v3_3 x1 hq) (cwV 2 hts gX6_holes_X6_hole rfl rfl rfl (by decide +kernel) ⟨Nat.le_of_ble_eq_true rfl, Nat.le_of_ble_eq_true rfl⟩) (gn_preV hPc hK hN hDc (ci := 5) (q0 := 0) rfl rfl) rfl rfl hl.1 rfl (lv_room (Nat.le_of_ble_eq_true rfl)) dX6_holes_26 ⟨Nat.zero_le _, Nat.zero_le _⟩) hS (fun q _ h => hFc q h) hFc (fun r_4 u t H1 locs ht hvm hq hB hz1 hk1 hS => ?_)
        obtain ⟨hP1, hK1, hD1⟩ := hB
        rw [ht] at hP1
        try dsimp only at hq
        obtain ⟨hP, hD⟩ := va_join (wr := []) (w1 := [(aM, .inr (5, [.ref aZ, .ref aPast, .int pastMany, .ref aKz, .int isKept, .ref aBuf, .int typed, .ref aStk, .ref aLaid, .int wid, .int hei, .ref aPcs, .ref aTold, .int toldMany, .int spot, .int wrong])), (aZ, .inl (cI, 207, .inl zz))]) hP hD [0, 1] [] rfl rfl (by decide) (by decide) hk1 hFc hP1 hD1
        have hP := hP.sub (ws' := [(aM, .inr (5, [.ref aZ, .ref aPast, .int pastMany, .ref aKz, .int isKept, .ref aBuf, .int typed, .ref aStk, .ref aLaid, .int wid, .int hei, .ref aPcs, .ref aTold, .int toldMany, .int spot, .int wrong])), (aZ, .inl (cI, 207, .inl zz))]) [0, 1] rfl
        have hD := hD.sub (ws' := [(aM, .inr (5, [.ref aZ, .ref aPast, .int pastMany, .ref aKz, .int isKept, .ref aBuf, .int typed, .ref aStk, .ref aLaid, .int wid, .int hei, .ref aPcs, .ref aTold, .int toldMany, .int spot, .int wrong])), (aZ, .inl (cI, 207, .inl zz))]) [0, 1] (by decide) rfl
        generalize H1 = H at hP hS ⊢
        refine lv_iload_n hx hb dX6_holes_29 rfl (lv_at hl 3 rfl) ?_
        refine lv_ishl hx hb dX6_holes_30 ?_
        refine lv_ior hx hb dX6_holes_31 ?_
        refine lv_topi (fun w2_5 ew2_5 => ?_)
        have hq := hq w2_5 ew2_5
        refine lv_istore_n (lv' := [(2, .int w2_5), (0, .ref aM), (1, .int x1), (3, .int v3_3)]) hx hb dX6_holes_32 rfl hl (by decide) rfl (fun ls hl => ?_)
        refine lv_iinc (v := (v3_3 + (1 : Int32))) (lv' := [(3, .int (v3_3 + (1 : Int32))), (2, .int w2_5), (0, .ref aM), (1, .int x1)]) hx hb dX6_holes_33 hl (k := 3) rfl rfl (by decide) rfl (fun ls hl => ?_)
        refine lv_goto (tgt := 16) hx hb dX6_holes_36 (by decide) ?_
        exact hq _ _ _ hP hD hS (lv_sub hl [2, 3, 1, 0] rfl))
    exact hq _ _ _ hP hD hS (lv_sub hl [2, 3, 1, 0] rfl)
  · have hq := hq.2 hc
    refine lv_iconst (v := -1) hx hb dX6_holes_10 (by decide) ?_
    exact hret _ _ _ _ _ dX6_holes_11 hP hD hS hq
set_option maxRecDepth 20000 in
theorem kwX6_wanted_7 : Cond.fieldLink RX6 7 "PunchedFoldsModel" "z" "[I" ∈ wsX6_wanted := by decide +kernel
set_option maxRecDepth 20000 in
theorem iwX6_wanted_X6 : ∀ w ∈ wsX60, w ∈ wsX6_wanted := by decide +kernel
set_option maxHeartbeats 4000000 in
set_option maxRecDepth 100000 in
theorem c_X6_wanted (l : Launch) (dC : Nat → ClassId) (dI : Nat → Nat → Nat) (cI cC cS : ClassId) (aM : Nat) (aZ : Nat) (aPast : Nat) (aKz : Nat) (aBuf : Nat) (aStk : Nat) (aLaid : Nat) (aPcs : Nat) (aTold : Nat) (sz : Nat) (pastMany : Int32) (isKept : Int32) (typed : Int32) (wid : Int32) (hei : Int32) (toldMany : Int32) (spot : Int32) (wrong : Int32) (zz : Nat → Int32) (x1 : Int32) {post : Int32 → Prop} (hq : wp_X6_wanted zz x1 post) : Met l yX6_wanted wsX6_wanted ({ frames := 0, cells := 0, slots := 0, locals := 0 } : Room) (gn_Pre (dC, dI) cI cC cS [.ref aM, .int x1] sz [(aM, .inr (5, [.ref aZ, .ref aPast, .int pastMany, .ref aKz, .int isKept, .ref aBuf, .int typed, .ref aStk, .ref aLaid, .int wid, .int hei, .ref aPcs, .ref aTold, .int toldMany, .int spot, .int wrong])), (aZ, .inl (cI, 207, .inl zz))]) (va_Qi (fun (r : Int32) (u : Unit) => post r) (fun (u : Unit) t => va_P (dC, dI) vwCl [(aM, .inr (5, [.ref aZ, .ref aPast, .int pastMany, .ref aKz, .int isKept, .ref aBuf, .int typed, .ref aStk, .ref aLaid, .int wid, .int hei, .ref aPcs, .ref aTold, .int toldMany, .int spot, .int wrong])), (aZ, .inl (cI, 207, .inl zz))] t.heap ∧ va_K (dC, dI) vwCl (gn_tys cI cC cS) t ∧ va_D (va_A [(aM, .inr (5, [.ref aZ, .ref aPast, .int pastMany, .ref aKz, .int isKept, .ref aBuf, .int typed, .ref aStk, .ref aLaid, .int wid, .int hei, .ref aPcs, .ref aTold, .int toldMany, .int spot, .int wrong])), (aZ, .inl (cI, 207, .inl zz))] sz) [(aM, .inr (5, [.ref aZ, .ref aPast, .int pastMany, .ref aKz, .int isKept, .ref aBuf, .int typed, .ref aStk, .ref aLaid, .int wid, .int hei, .ref aPcs, .ref aTold, .int toldMany, .int spot, .int wrong])), (aZ, .inl (cI, 207, .inl zz))]) (va_A [(aM, .inr (5, [.ref aZ, .ref aPast, .int pastMany, .ref aKz, .int isKept, .ref aBuf, .int typed, .ref aStk, .ref aLaid, .int wid, .int hei, .ref aPcs, .ref aTold, .int toldMany, .int spot, .int wrong])), (aZ, .inl (cI, 207, .inl zz))] sz)) 0 0 (va_A [(aM, .inr (5, [.ref aZ, .ref aPast, .int pastMany, .ref aKz, .int isKept, .ref aBuf, .int typed, .ref aStk, .ref aLaid, .int wid, .int hei, .ref aPcs, .ref aTold, .int toldMany, .int spot, .int wrong])), (aZ, .inl (cI, 207, .inl zz))] sz) := by
  unfold wp_X6_wanted at hq
  refine Met.ofW (cc := cX6_wanted) (maxL := 2) (ret := (some .int)) (by decide) rfl ?_
  intro p e s m args below meth c s₁ B hml hv
  obtain ⟨rfl, hsz, hP, hK, hN, hD0⟩ := hv
  have hx := B.exec
  have hb := B.bytes
  have hr := B.returns
  have hts := atoms_spec (ws := wsX6_wanted) B.pre
  have hown : s.vm.findClass RX6 = some m.cls := findClass_of_methodNamed B.named
  have hlocks := B.notSynchronized
  subst hsz
  have hD := hD0.self (sz := s.heap.size)
  generalize hAe : va_A [(aM, .inr (5, [.ref aZ, .ref aPast, .int pastMany, .ref aKz, .int isKept, .ref aBuf, .int typed, .ref aStk, .ref aLaid, .int wid, .int hei, .ref aPcs, .ref aTold, .int toldMany, .int spot, .int wrong])), (aZ, .inl (cI, 207, .inl zz))] s.heap.size = A at hD ⊢
  have hA : ∀ q : Nat, s.heap.size ≤ q → A q := fun q h => by rw [← hAe]; exact Or.inr h
  have hS : va_S A s.heap s.heap [] := va_S.rf
  have hl := lv_entry ([.ref aM, .int x1] : List Value) (n := 2) (Nat.le_of_ble_eq_true rfl)
  rw [lg_entry_eq]
  generalize (lg_sl ([.ref aM, .int x1] : List Value) ++ List.replicate (2 - (lg_sl ([.ref aM, .int x1] : List Value)).length) Slot.unset).toArray = ls at hl ⊢
  have hl : lv_has ls 2 [(0, .ref aM), (1, .int x1)] := hl
  refine gn_Q (hret := fun Q => ∀ (pc : Nat) (ls : Array Slot) (H : Heap) (locs : List Loc) (r : Int32) , decode cX6_wanted pc = .ok (.ireturn, 1) → va_P (dC, dI) vwCl [(aM, .inr (5, [.ref aZ, .ref aPast, .int pastMany, .ref aKz, .int isKept, .ref aBuf, .int typed, .ref aStk, .ref aLaid, .int wid, .int hei, .ref aPcs, .ref aTold, .int toldMany, .int spot, .int wrong])), (aZ, .inl (cI, 207, .inl zz))] H → va_D A [(aM, .inr (5, [.ref aZ, .ref aPast, .int pastMany, .ref aKz, .int isKept, .ref aBuf, .int typed, .ref aStk, .ref aLaid, .int wid, .int hei, .ref aPcs, .ref aTold, .int toldMany, .int spot, .int wrong])), (aZ, .inl (cI, 207, .inl zz))] → va_S A s.heap H locs → post r → W p l e ({ frames := 0, cells := 0, slots := 0, locals := 0 } : Room) s m ([.ref aM, .int x1] : List Value).toArray below meth c H locs 0 0 Q (F0 m pc ls [.int r])) (fun Q hret => ?_) ?_
  rotate_left
  · intro pc ls H locs r hdg hP hD hS hpost
    exact W.iret (v := r) hx hb hr (fun t ht hW => ⟨⟨r, (), rfl, hpost, by rw [ht]; exact hP, va_K.moved hW.alike hK, hD⟩, hS.F ht⟩) hS.2.2 hdg
  refine lv_aload_n hx hb dX6_wanted_0 rfl (lv_at hl 0 rfl) ?_
  refine va_get (D := (dC, dI)) (ci := 5) (v := .ref aZ) (C := RX6) (T := TX6) (N := 16) hx hb hts iwX6_wanted_X6 hown hK hP 0 rfl rfl 0 (by decide) (hts _ kwX6_wanted_7) (fun _ h9 => h9) rfl dX6_wanted_1 ?_
  refine lv_sipush (v := 199) hx hb dX6_wanted_4 (by decide) ?_
  refine lv_iload_n hx hb dX6_wanted_7 rfl (lv_at hl 1 rfl) ?_
  refine lv_bipush (v := 8) hx hb dX6_wanted_8 (by decide) ?_
  refine lv_idiv hx hb dX6_wanted_10 (by decide) ?_
  refine lv_iadd hx hb dX6_wanted_11 ?_
  have hin := hq.1
  have hq := hq.2
  refine va_iald hx hb hK hP 1 0 rfl rfl hin dX6_wanted_12 ?_
  refine lv_iload_n hx hb dX6_wanted_13 rfl (lv_at hl 1 rfl) ?_
  refine lv_bipush (v := 8) hx hb dX6_wanted_14 (by decide) ?_
  refine lv_irem hx hb dX6_wanted_16 (by decide) ?_
  refine lv_ishr hx hb dX6_wanted_17 ?_
  refine lv_iconst (v := 1) hx hb dX6_wanted_18 (by decide) ?_
  refine lv_iand hx hb dX6_wanted_19 ?_
  exact hret _ _ _ _ _ dX6_wanted_20 hP hD hS hq
set_option maxRecDepth 20000 in
theorem kwX6_joins_29 : Cond.fieldLink RX6 29 "PunchedFoldsModel" "pieces" "[I" ∈ wsX6_joins := by decide +kernel
set_option maxRecDepth 20000 in
theorem iwX6_joins_X6 : ∀ w ∈ wsX60, w ∈ wsX6_joins := by decide +kernel
set_option maxRecDepth 20000 in
theorem kwX6_joins_7 : Cond.fieldLink RX6 7 "PunchedFoldsModel" "z" "[I" ∈ wsX6_joins := by decide +kernel
set_option maxHeartbeats 4000000 in
set_option maxRecDepth 100000 in
theorem c_X6_joins (l : Launch) (dC : Nat → ClassId) (dI : Nat → Nat → Nat) (cI cC cS : ClassId) (aM : Nat) (aZ : Nat) (aPast : Nat) (aKz : Nat) (aBuf : Nat) (aStk : Nat) (aLaid : Nat) (aPcs : Nat) (aTold : Nat) (sz : Nat) (pastMany : Int32) (isKept : Int32) (typed : Int32) (wid : Int32) (hei : Int32) (toldMany : Int32) (spot : Int32) (wrong : Int32) (zz : Nat → Int32) (pcs : Nat → Int32) (x1 : Int32) (x2 : Int32) {post : Int32 → (Nat → Int32) → Prop} (hq : wp_X6_joins zz pcs x1 x2 post) : Met l yX6_joins wsX6_joins ({ frames := 0, cells := 0, slots := 0, locals := 0 } : Room) (gn_Pre (dC, dI) cI cC cS [.ref aM, .int x1, .int x2] sz [(aM, .inr (5, [.ref aZ, .ref aPast, .int pastMany, .ref aKz, .int isKept, .ref aBuf, .int typed, .ref aStk, .ref aLaid, .int wid, .int hei, .ref aPcs, .ref aTold, .int toldMany, .int spot, .int wrong])), (aZ, .inl (cI, 207, .inl zz)), (aPcs, .inl (cI, 64, .inl pcs))]) (va_Qi (fun (r : Int32) (u : (Nat → Int32)) => post r u) (fun (u : (Nat → Int32)) t => va_P (dC, dI) vwCl [(aM, .inr (5, [.ref aZ, .ref aPast, .int pastMany, .ref aKz, .int isKept, .ref aBuf, .int typed, .ref aStk, .ref aLaid, .int wid, .int hei, .ref aPcs, .ref aTold, .int toldMany, .int spot, .int wrong])), (aZ, .inl (cI, 207, .inl zz)), (aPcs, .inl (cI, 64, .inl u))] t.heap ∧ va_K (dC, dI) vwCl (gn_tys cI cC cS) t ∧ va_D (va_A [(aM, .inr (5, [.ref aZ, .ref aPast, .int pastMany, .ref aKz, .int isKept, .ref aBuf, .int typed, .ref aStk, .ref aLaid, .int wid, .int hei, .ref aPcs, .ref aTold, .int toldMany, .int spot, .int wrong])), (aZ, .inl (cI, 207, .inl zz)), (aPcs, .inl (cI, 64, .inl pcs))] sz) [(aM, .inr (5, [.ref aZ, .ref aPast, .int pastMany, .ref aKz, .int isKept, .ref aBuf, .int typed, .ref aStk, .ref aLaid, .int wid, .int hei, .ref aPcs, .ref aTold, .int toldMany, .int spot, .int wrong])), (aZ, .inl (cI, 207, .inl zz)), (aPcs, .inl (cI, 64, .inl u))]) (va_A [(aM, .inr (5, [.ref aZ, .ref aPast, .int pastMany, .ref aKz, .int isKept, .ref aBuf, .int typed, .ref aStk, .ref aLaid, .int wid, .int hei, .ref aPcs, .ref aTold, .int toldMany, .int spot, .int wrong])), (aZ, .inl (cI, 207, .inl zz)), (aPcs, .inl (cI, 64, .inl pcs))] sz)) 0 0 (va_A [(aM, .inr (5, [.ref aZ, .ref aPast, .int pastMany, .ref aKz, .int isKept, .ref aBuf, .int typed, .ref aStk, .ref aLaid, .int wid, .int hei, .ref aPcs, .ref aTold, .int toldMany, .int spot, .int wrong])), (aZ, .inl (cI, 207, .inl zz)), (aPcs, .inl (cI, 64, .inl pcs))] sz) := by
  unfold wp_X6_joins at hq
  refine Met.ofW (cc := cX6_joins) (maxL := 5) (ret := (some .boolean)) (by decide) rfl ?_
  intro p e s m args below meth c s₁ B hml hv
  obtain ⟨rfl, hsz, hP, hK, hN, hD0⟩ := hv
  have hx := B.exec
  have hb := B.bytes
  have hr := B.returns
  have hts := atoms_spec (ws := wsX6_joins) B.pre
  have hown : s.vm.findClass RX6 = some m.cls := findClass_of_methodNamed B.named
  have hlocks := B.notSynchronized
  subst hsz
  have hD := hD0.self (sz := s.heap.size)
  generalize hAe : va_A [(aM, .inr (5, [.ref aZ, .ref aPast, .int pastMany, .ref aKz, .int isKept, .ref aBuf, .int typed, .ref aStk, .ref aLaid, .int wid, .int hei, .ref aPcs, .ref aTold, .int toldMany, .int spot, .int wrong])), (aZ, .inl (cI, 207, .inl zz)), (aPcs, .inl (cI, 64, .inl pcs))] s.heap.size = A at hD ⊢
  have hA : ∀ q : Nat, s.heap.size ≤ q → A q := fun q h => by rw [← hAe]; exact Or.inr h
  have hS : va_S A s.heap s.heap [] := va_S.rf
  have hl := lv_entry ([.ref aM, .int x1, .int x2] : List Value) (n := 5) (Nat.le_of_ble_eq_true rfl)
  rw [lg_entry_eq]
  generalize (lg_sl ([.ref aM, .int x1, .int x2] : List Value) ++ List.replicate (5 - (lg_sl ([.ref aM, .int x1, .int x2] : List Value)).length) Slot.unset).toArray = ls at hl ⊢
  have hl : lv_has ls 5 [(0, .ref aM), (1, .int x1), (2, .int x2)] := hl
  refine gn_Q (hret := fun Q => ∀ (pc : Nat) (ls : Array Slot) (H : Heap) (locs : List Loc) (r : Int32) (m_pcs : Nat → Int32), decode cX6_joins pc = .ok (.ireturn, 1) → va_P (dC, dI) vwCl [(aM, .inr (5, [.ref aZ, .ref aPast, .int pastMany, .ref aKz, .int isKept, .ref aBuf, .int typed, .ref aStk, .ref aLaid, .int wid, .int hei, .ref aPcs, .ref aTold, .int toldMany, .int spot, .int wrong])), (aZ, .inl (cI, 207, .inl zz)), (aPcs, .inl (cI, 64, .inl m_pcs))] H → va_D A [(aM, .inr (5, [.ref aZ, .ref aPast, .int pastMany, .ref aKz, .int isKept, .ref aBuf, .int typed, .ref aStk, .ref aLaid, .int wid, .int hei, .ref aPcs, .ref aTold, .int toldMany, .int spot, .int wrong])), (aZ, .inl (cI, 207, .inl zz)), (aPcs, .inl (cI, 64, .inl m_pcs))] → va_S A s.heap H locs → (r = 0 ∨ r = 1) → post r m_pcs → W p l e ({ frames := 0, cells := 0, slots := 0, locals := 0 } : Room) s m ([.ref aM, .int x1, .int x2] : List Value).toArray below meth c H locs 0 0 Q (F0 m pc ls [.int r])) (fun Q hret => ?_) ?_
  rotate_left
  · intro pc ls H locs r m_pcs hdg hP hD hS hz hpost
    exact W.zret (v := r) hx hb hr (gn_nz hz) (fun t ht hW => ⟨⟨r, m_pcs, rfl, hpost, by rw [ht]; exact hP, va_K.moved hW.alike hK, hD⟩, hS.F ht⟩) hS.2.2 hdg
  refine lv_aload_n hx hb dX6_joins_0 rfl (lv_at hl 0 rfl) ?_
  refine va_get (D := (dC, dI)) (ci := 5) (v := .ref aPcs) (C := RX6) (T := TX6) (N := 16) hx hb hts iwX6_joins_X6 hown hK hP 0 rfl rfl 11 (by decide) (hts _ kwX6_joins_29) (fun _ h9 => h9) rfl dX6_joins_1 ?_
  refine lv_iload_n hx hb dX6_joins_4 rfl (lv_at hl 1 rfl) ?_
  have hin := hq.1
  have hq := hq.2
  refine va_iald hx hb hK hP 2 0 rfl rfl hin dX6_joins_5 ?_
  refine lv_aload_n hx hb dX6_joins_6 rfl (lv_at hl 0 rfl) ?_
  refine va_get (D := (dC, dI)) (ci := 5) (v := .ref aPcs) (C := RX6) (T := TX6) (N := 16) hx hb hts iwX6_joins_X6 hown hK hP 0 rfl rfl 11 (by decide) (hts _ kwX6_joins_29) (fun _ h9 => h9) rfl dX6_joins_7 ?_
  refine lv_iload_n hx hb dX6_joins_10 rfl (lv_at hl 2 rfl) ?_
  have hin := hq.1
  have hq := hq.2
  refine va_iald hx hb hK hP 2 0 rfl rfl hin dX6_joins_11 ?_
  have hq := hq (fun (t_1 : Int32) => ∀ (H : Heap) (locs : List Loc) (ls : Array Slot), va_P (dC, dI) vwCl [(aM, .inr (5, [.ref aZ, .ref aPast, .int pastMany, .ref aKz, .int isKept, .ref aBuf, .int typed, .ref aStk, .ref aLaid, .int wid, .int hei, .ref aPcs, .ref aTold, .int toldMany, .int spot, .int wrong])), (aZ, .inl (cI, 207, .inl zz)), (aPcs, .inl (cI, 64, .inl pcs))] H → va_D A [(aM, .inr (5, [.ref aZ, .ref aPast, .int pastMany, .ref aKz, .int isKept, .ref aBuf, .int typed, .ref aStk, .ref aLaid, .int wid, .int hei, .ref aPcs, .ref aTold, .int toldMany, .int spot, .int wrong])), (aZ, .inl (cI, 207, .inl zz)), (aPcs, .inl (cI, 64, .inl pcs))] → va_S A s.heap H locs → lv_has ls 5 [(0, .ref aM), (1, .int x1), (2, .int x2)] → W p l e ({ frames := 0, cells := 0, slots := 0, locals := 0 } : Room) s m ([.ref aM, .int x1, .int x2] : List Value).toArray below meth c H locs 0 0 Q (F0 m 30 ls [.int t_1])) (by
    intro t_1 hq H locs ls hP hD hS hl
    refine lv_istore_n (lv' := [(3, .int t_1), (0, .ref aM), (1, .int x1), (2, .int x2)]) hx hb dX6_joins_30 rfl hl (by decide) rfl (fun ls hl => ?_)
    refine lv_aload_n hx hb dX6_joins_31 rfl (lv_at hl 1 rfl) ?_
    refine va_get (D := (dC, dI)) (ci := 5) (v := .ref aZ) (C := RX6) (T := TX6) (N := 16) hx hb hts iwX6_joins_X6 hown hK hP 0 rfl rfl 0 (by decide) (hts _ kwX6_joins_7) (fun _ h9 => h9) rfl dX6_joins_32 ?_
    refine lv_bipush (v := 7) hx hb dX6_joins_35 (by decide) ?_
    refine lv_iload_n hx hb dX6_joins_37 rfl (lv_at hl 2 rfl) ?_
    refine lv_iadd hx hb dX6_joins_38 ?_
    have hin := hq.1
    have hq := hq.2
    refine va_iald hx hb hK hP 1 0 rfl rfl hin dX6_joins_39 ?_
    have hq := hq (fun (t_2 : Int32) => ∀ (H : Heap) (locs : List Loc) (ls : Array Slot), va_P (dC, dI) vwCl [(aM, .inr (5, [.ref aZ, .ref aPast, .int pastMany, .ref aKz, .int isKept, .ref aBuf, .int typed, .ref aStk, .ref aLaid, .int wid, .int hei, .ref aPcs, .ref aTold, .int toldMany, .int spot, .int wrong])), (aZ, .inl (cI, 207, .inl zz)), (aPcs, .inl (cI, 64, .inl pcs))] H → va_D A [(aM, .inr (5, [.ref aZ, .ref aPast, .int pastMany, .ref aKz, .int isKept, .ref aBuf, .int typed, .ref aStk, .ref aLaid, .int wid, .int hei, .ref aPcs, .ref aTold, .int toldMany, .int spot, .int wrong])), (aZ, .inl (cI, 207, .inl zz)), (aPcs, .inl (cI, 64, .inl pcs))] → va_S A s.heap H locs → lv_has ls 5 [(0, .ref aM), (1, .int x1), (2, .int x2), (3, .int t_1)] → W p l e ({ frames := 0, cells := 0, slots := 0, locals := 0 } : Room) s m ([.ref aM, .int x1, .int x2] : List Value).toArray below meth c H locs 0 0 Q (F0 m 75 ls [.int t_2])) (by
      intro t_2 hq H locs ls hP hD hS hl
      refine lv_istore (lv' := [(4, .int t_2), (0, .ref aM), (1, .int x1), (2, .int x2), (3, .int t_1)]) hx hb dX6_joins_75 hl (by decide) rfl (fun ls hl => ?_)
      refine lv_iload hx hb dX6_joins_77 (lv_at hl 0 rfl) ?_
      have hq := hq (fun (pcs__3 : Nat → Int32) => ∀ (H : Heap) (locs : List Loc) (ls : Array Slot), va_P (dC, dI) vwCl [(aM, .inr (5, [.ref aZ, .ref aPast, .int pastMany, .ref aKz, .int isKept, .ref aBuf, .int typed, .ref aStk, .ref aLaid, .int wid, .int hei, .ref aPcs, .ref aTold, .int toldMany, .int spot, .int wrong])), (aZ, .inl (cI, 207, .inl zz)), (aPcs, .inl (cI, 64, .inl pcs__3))] H → va_D A [(aM, .inr (5, [.ref aZ, .ref aPast, .int pastMany, .ref aKz, .int isKept, .ref aBuf, .int typed, .ref aStk, .ref aLaid, .int wid, .int hei, .ref aPcs, .ref aTold, .int toldMany, .int spot, .int wrong])), (aZ, .inl (cI, 207, .inl zz)), (aPcs, .inl (cI, 64, .inl pcs__3))] → va_S A s.heap H locs → lv_has ls 5 [(4, .int t_2)] → W p l e ({ frames := 0, cells := 0, slots := 0, locals := 0 } : Room) s m ([.ref aM, .int x1, .int x2] : List Value).toArray below meth c H locs 0 0 Q (F0 m 96 ls [])) (by
        intro pcs__3 hq H locs ls hP hD hS hl
        refine lv_iload hx hb dX6_joins_96 (lv_at hl 0 rfl) ?_
        have hz := hq.1
        have hq := hq.2
        exact hret _ _ _ _ _ _ dX6_joins_98 hP hD hS hz hq)
      refine lv_if_eq (tgt := 96) hx hb dX6_joins_79 (by decide) (fun hc => ?_) (fun hc => ?_)
      · have hq := hq.1 hc
        exact hq _ _ _ hP hD hS (lv_sub hl [0] rfl)
      · have hq := hq.2 hc
        refine lv_aload_n hx hb dX6_joins_82 rfl (lv_at hl 1 rfl) ?_
        refine va_get (D := (dC, dI)) (ci := 5) (v := .ref aPcs) (C := RX6) (T := TX6) (N := 16) hx hb hts iwX6_joins_X6 hown hK hP 0 rfl rfl 11 (by decide) (hts _ kwX6_joins_29) (fun _ h9 => h9) rfl dX6_joins_83 ?_
        refine lv_iload_n hx hb dX6_joins_86 rfl (lv_at hl 2 rfl) ?_
        refine lv_iload_n hx hb dX6_joins_87 rfl (lv_at hl 4 rfl) ?_
        have hin := hq.1
        have hq := hq.2
        refine va_iast hx hb hK hP hD hS 2 0 rfl rfl hin dX6_joins_88 (fun H locs hP hD hS => ?_)
        have hP : va_P (dC, dI) vwCl [(aM, .inr (5, [.ref aZ, .ref aPast, .int pastMany, .ref aKz, .int isKept, .ref aBuf, .int typed, .ref aStk, .ref aLaid, .int wid, .int hei, .ref aPcs, .ref aTold, .int toldMany, .int spot, .int wrong])), (aZ, .inl (cI, 207, .inl zz)), (aPcs, .inl (cI, 64, .inl (upd pcs (x1).toNatClampNeg t_1)))] H := hP
        have hD : va_D A [(aM, .inr (5, [.ref aZ, .ref aPast, .int pastMany, .ref aKz, .int isKept, .ref aBuf, .int typed, .ref aStk, .ref aLaid, .int wid, .int hei, .ref aPcs, .ref aTold, .int toldMany, .int spot, .int wrong])), (aZ, .inl (cI, 207, .inl zz)), (aPcs, .inl (cI, 64, .inl (upd pcs (x1).toNatClampNeg t_1)))] := hD
        refine lv_aload_n hx hb dX6_joins_89 rfl (lv_at hl 1 rfl) ?_
        refine va_get (D := (dC, dI)) (ci := 5) (v := .ref aPcs) (C := RX6) (T := TX6) (N := 16) hx hb hts iwX6_joins_X6 hown hK hP 0 rfl rfl 11 (by decide) (hts _ kwX6_joins_29) (fun _ h9 => h9) rfl dX6_joins_90 ?_
        refine lv_iload_n hx hb dX6_joins_93 rfl (lv_at hl 3 rfl) ?_
        refine lv_iload_n hx hb dX6_joins_94 rfl (lv_at hl 4 rfl) ?_
        have hin := hq.1
        have hq := hq.2
        refine va_iast hx hb hK hP hD hS 2 0 rfl rfl hin dX6_joins_95 (fun H locs hP hD hS => ?_)
        have hP : va_P (dC, dI) vwCl [(aM, .inr (5, [.ref aZ, .ref aPast, .int pastMany, .ref aKz, .int isKept, .ref aBuf, .int typed, .ref aStk, .ref aLaid, .int wid, .int hei, .ref aPcs, .ref aTold, .int toldMany, .int spot, .int wrong])), (aZ, .inl (cI, 207, .inl zz)), (aPcs, .inl (cI, 64, .inl (upd (upd pcs (x1).toNatClampNeg t_1) (x2).toNatClampNeg t_1)))] H := hP
        have hD : va_D A [(aM, .inr (5, [.ref aZ, .ref aPast, .int pastMany, .ref aKz, .int isKept, .ref aBuf, .int typed, .ref aStk, .ref aLaid, .int wid, .int hei, .ref aPcs, .ref aTold, .int toldMany, .int spot, .int wrong])), (aZ, .inl (cI, 207, .inl zz)), (aPcs, .inl (cI, 64, .inl (upd (upd pcs (x1).toNatClampNeg t_1) (x2).toNatClampNeg t_1)))] := hD
        exact hq _ _ _ hP hD hS (lv_sub hl [0] rfl))
    have hq := hq (∀ (H : Heap) (locs : List Loc) (ls : Array Slot), va_P (dC, dI) vwCl [(aM, .inr (5, [.ref aZ, .ref aPast, .int pastMany, .ref aKz, .int isKept, .ref aBuf, .int typed, .ref aStk, .ref aLaid, .int wid, .int hei, .ref aPcs, .ref aTold, .int toldMany, .int spot, .int wrong])), (aZ, .inl (cI, 207, .inl zz)), (aPcs, .inl (cI, 64, .inl pcs))] H → va_D A [(aM, .inr (5, [.ref aZ, .ref aPast, .int pastMany, .ref aKz, .int isKept, .ref aBuf, .int typed, .ref aStk, .ref aLaid, .int wid, .int hei, .ref aPcs, .ref aTold, .int toldMany, .int spot, .int wrong])), (aZ, .inl (cI, 207, .inl zz)), (aPcs, .inl (cI, 64, .inl pcs))] → va_S A s.heap H locs → lv_has ls 5 [(0, .ref aM), (1, .int x1), (2, .int x2), (3, .int t_1)] → W p l e ({ frames := 0, cells := 0, slots := 0, locals := 0 } : Room) s m ([.ref aM, .int x1, .int x2] : List Value).toArray below meth c H locs 0 0 Q (F0 m 74 ls [])) (by
      intro  hq H locs ls hP hD hS hl
      refine lv_iconst (v := 0) hx hb dX6_joins_74 (by decide) ?_
      exact hq _ _ _ hP hD hS (lv_sub hl [0, 1, 2, 3] rfl))
    refine lv_if_ne (tgt := 74) hx hb dX6_joins_40 (by decide) (fun hc => ?_) (fun hc => ?_)
    · have hq := hq.1 hc
      exact hq _ _ _ hP hD hS (lv_sub hl [1, 2, 3, 0] rfl)
    · have hq := hq.2 hc
      refine lv_aload_n hx hb dX6_joins_43 rfl (lv_at hl 1 rfl) ?_
      refine va_get (D := (dC, dI)) (ci := 5) (v := .ref aZ) (C := RX6) (T := TX6) (N := 16) hx hb hts iwX6_joins_X6 hown hK hP 0 rfl rfl 0 (by decide) (hts _ kwX6_joins_7) (fun _ h9 => h9) rfl dX6_joins_44 ?_
      refine lv_bipush (v := 7) hx hb dX6_joins_47 (by decide) ?_
      refine lv_iload_n hx hb dX6_joins_49 rfl (lv_at hl 3 rfl) ?_
      refine lv_iadd hx hb dX6_joins_50 ?_
      have hin := hq.1
      have hq := hq.2
      refine va_iald hx hb hK hP 1 0 rfl rfl hin dX6_joins_51 ?_
      refine lv_if_ne (tgt := 74) hx hb dX6_joins_52 (by decide) (fun hc => ?_) (fun hc => ?_)
      · have hq := hq.1 hc
        exact hq _ _ _ hP hD hS (lv_sub hl [1, 2, 3, 0] rfl)
      · have hq := hq.2 hc
        refine lv_aload_n hx hb dX6_joins_55 rfl (lv_at hl 1 rfl) ?_
        refine va_get (D := (dC, dI)) (ci := 5) (v := .ref aPcs) (C := RX6) (T := TX6) (N := 16) hx hb hts iwX6_joins_X6 hown hK hP 0 rfl rfl 11 (by decide) (hts _ kwX6_joins_29) (fun _ h9 => h9) rfl dX6_joins_56 ?_
        refine lv_iload_n hx hb dX6_joins_59 rfl (lv_at hl 2 rfl) ?_
        have hin := hq.1
        have hq := hq.2
        refine va_iald hx hb hK hP 2 0 rfl rfl hin dX6_joins_60 ?_
        refine lv_aload_n hx hb dX6_joins_61 rfl (lv_at hl 1 rfl) ?_
        refine va_get (D := (dC, dI)) (ci := 5) (v := .ref aPcs) (C := RX6) (T := TX6) (N := 16) hx hb hts iwX6_joins_X6 hown hK hP 0 rfl rfl 11 (by decide) (hts _ kwX6_joins_29) (fun _ h9 => h9) rfl dX6_joins_62 ?_
        refine lv_iload_n hx hb dX6_joins_65 rfl (lv_at hl 3 rfl) ?_
        have hin := hq.1
        have hq := hq.2
        refine va_iald hx hb hK hP 2 0 rfl rfl hin dX6_joins_66 ?_
        refine lv_icmp_eq (tgt := 74) hx hb dX6_joins_67 (by decide) (fun hc => ?_) (fun hc => ?_)
        · have hq := hq.1 hc
          exact hq _ _ _ hP hD hS (lv_sub hl [1, 2, 3, 0] rfl)
        · have hq := hq.2 hc
          refine lv_iconst (v := 1) hx hb dX6_joins_70 (by decide) ?_
          refine lv_goto (tgt := 75) hx hb dX6_joins_71 (by decide) ?_
          exact hq _ _ _ hP hD hS (lv_sub hl [1, 2, 3, 0] rfl))
  refine lv_icmp_ge (tgt := 24) hx hb dX6_joins_12 (by decide) (fun hc => ?_) (fun hc => ?_)
  · have hq := hq.1 hc
    refine lv_aload_n hx hb dX6_joins_24 rfl (lv_at hl 0 rfl) ?_
    refine va_get (D := (dC, dI)) (ci := 5) (v := .ref aPcs) (C := RX6) (T := TX6) (N := 16) hx hb hts iwX6_joins_X6 hown hK hP 0 rfl rfl 11 (by decide) (hts _ kwX6_joins_29) (fun _ h9 => h9) rfl dX6_joins_25 ?_
    refine lv_iload_n hx hb dX6_joins_28 rfl (lv_at hl 2 rfl) ?_
    have hin := hq.1
    have hq := hq.2
    refine va_iald hx hb hK hP 2 0 rfl rfl hin dX6_joins_29 ?_
    exact hq _ _ _ hP hD hS (lv_sub hl [0, 1, 2] rfl)
  · have hq := hq.2 hc
    refine lv_aload_n hx hb dX6_joins_15 rfl (lv_at hl 0 rfl) ?_
    refine va_get (D := (dC, dI)) (ci := 5) (v := .ref aPcs) (C := RX6) (T := TX6) (N := 16) hx hb hts iwX6_joins_X6 hown hK hP 0 rfl rfl 11 (by decide) (hts _ kwX6_joins_29) (fun _ h9 => h9) rfl dX6_joins_16 ?_
    refine lv_iload_n hx hb dX6_joins_19 rfl (lv_at hl 1 rfl) ?_
    have hin := hq.1
    have hq := hq.2
    refine va_iald hx hb hK hP 2 0 rfl rfl hin dX6_joins_20 ?_
    refine lv_goto (tgt := 30) hx hb dX6_joins_21 (by decide) ?_
    exact hq _ _ _ hP hD hS (lv_sub hl [0, 1, 2] rfl)
set_option maxRecDepth 20000 in
theorem kwX6_layPieces_29 : Cond.fieldLink RX6 29 "PunchedFoldsModel" "pieces" "[I" ∈ wsX6_layPieces := by decide +kernel
set_option maxRecDepth 20000 in
theorem iwX6_layPieces_X6 : ∀ w ∈ wsX60, w ∈ wsX6_layPieces := by decide +kernel
set_option maxHeartbeats 4000000 in
set_option maxRecDepth 100000 in
theorem c_X6_layPieces (l : Launch) (dC : Nat → ClassId) (dI : Nat → Nat → Nat) (cI cC cS : ClassId) (aM : Nat) (aZ : Nat) (aPast : Nat) (aKz : Nat) (aBuf : Nat) (aStk : Nat) (aLaid : Nat) (aPcs : Nat) (aTold : Nat) (sz : Nat) (pastMany : Int32) (isKept : Int32) (typed : Int32) (wid : Int32) (hei : Int32) (toldMany : Int32) (spot : Int32) (wrong : Int32) (zz : Nat → Int32) (pcs : Nat → Int32) {post : (Nat → Int32) → Prop} (hq : wp_X6_layPieces zz pcs post) : Met l yX6_layPieces wsX6_layPieces ({ frames := 1, cells := 0, slots := 0, locals := 24 } : Room) (gn_Pre (dC, dI) cI cC cS [.ref aM] sz [(aM, .inr (5, [.ref aZ, .ref aPast, .int pastMany, .ref aKz, .int isKept, .ref aBuf, .int typed, .ref aStk, .ref aLaid, .int wid, .int hei, .ref aPcs, .ref aTold, .int toldMany, .int spot, .int wrong])), (aZ, .inl (cI, 207, .inl zz)), (aPcs, .inl (cI, 64, .inl pcs))]) (va_Qv (fun (u : (Nat → Int32)) => post u) (fun (u : (Nat → Int32)) t => va_P (dC, dI) vwCl [(aM, .inr (5, [.ref aZ, .ref aPast, .int pastMany, .ref aKz, .int isKept, .ref aBuf, .int typed, .ref aStk, .ref aLaid, .int wid, .int hei, .ref aPcs, .ref aTold, .int toldMany, .int spot, .int wrong])), (aZ, .inl (cI, 207, .inl zz)), (aPcs, .inl (cI, 64, .inl u))] t.heap ∧ va_K (dC, dI) vwCl (gn_tys cI cC cS) t ∧ va_D (va_A [(aM, .inr (5, [.ref aZ, .ref aPast, .int pastMany, .ref aKz, .int isKept, .ref aBuf, .int typed, .ref aStk, .ref aLaid, .int wid, .int hei, .ref aPcs, .ref aTold, .int toldMany, .int spot, .int wrong])), (aZ, .inl (cI, 207, .inl zz)), (aPcs, .inl (cI, 64, .inl pcs))] sz) [(aM, .inr (5, [.ref aZ, .ref aPast, .int pastMany, .ref aKz, .int isKept, .ref aBuf, .int typed, .ref aStk, .ref aLaid, .int wid, .int hei, .ref aPcs, .ref aTold, .int toldMany, .int spot, .int wrong])), (aZ, .inl (cI, 207, .inl zz)), (aPcs, .inl (cI, 64, .inl u))]) (va_A [(aM, .inr (5, [.ref aZ, .ref aPast, .int pastMany, .ref aKz, .int isKept, .ref aBuf, .int typed, .ref aStk, .ref aLaid, .int wid, .int hei, .ref aPcs, .ref aTold, .int toldMany, .int spot, .int wrong])), (aZ, .inl (cI, 207, .inl zz)), (aPcs, .inl (cI, 64, .inl pcs))] sz)) 0 0 (va_A [(aM, .inr (5, [.ref aZ, .ref aPast, .int pastMany, .ref aKz, .int isKept, .ref aBuf, .int typed, .ref aStk, .ref aLaid, .int wid, .int hei, .ref aPcs, .ref aTold, .int toldMany, .int spot, .int wrong])), (aZ, .inl (cI, 207, .inl zz)), (aPcs, .inl (cI, 64, .inl pcs))] sz) := by
  unfold wp_X6_layPieces at hq
  refine Met.ofW (cc := cX6_layPieces) (maxL := 3) (ret := none) (by decide) rfl ?_
  intro p e s m args below meth c s₁ B hml hv
  obtain ⟨rfl, hsz, hP, hK, hN, hD0⟩ := hv
  have hx := B.exec
  have hb := B.bytes
  have hr := B.returns
  have hts := atoms_spec (ws := wsX6_layPieces) B.pre
  have hown : s.vm.findClass RX6 = some m.cls := findClass_of_methodNamed B.named
  have hlocks := B.notSynchronized
  subst hsz
  have hD := hD0.self (sz := s.heap.size)
  generalize hAe : va_A [(aM, .inr (5, [.ref aZ, .ref aPast, .int pastMany, .ref aKz, .int isKept, .ref aBuf, .int typed, .ref aStk, .ref aLaid, .int wid, .int hei, .ref aPcs, .ref aTold, .int toldMany, .int spot, .int wrong])), (aZ, .inl (cI, 207, .inl zz)), (aPcs, .inl (cI, 64, .inl pcs))] s.heap.size = A at hD ⊢
  have hA : ∀ q : Nat, s.heap.size ≤ q → A q := fun q h => by rw [← hAe]; exact Or.inr h
  have hS : va_S A s.heap s.heap [] := va_S.rf
  have hl := lv_entry ([.ref aM] : List Value) (n := 3) (Nat.le_of_ble_eq_true rfl)
  rw [lg_entry_eq]
  generalize (lg_sl ([.ref aM] : List Value) ++ List.replicate (3 - (lg_sl ([.ref aM] : List Value)).length) Slot.unset).toArray = ls at hl ⊢
  have hl : lv_has ls 3 [(0, .ref aM)] := hl
  refine gn_Q (hret := fun Q => ∀ (pc : Nat) (ls : Array Slot) (H : Heap) (locs : List Loc) (m_pcs : Nat → Int32), decode cX6_layPieces pc = .ok (.return_, 1) → va_P (dC, dI) vwCl [(aM, .inr (5, [.ref aZ, .ref aPast, .int pastMany, .ref aKz, .int isKept, .ref aBuf, .int typed, .ref aStk, .ref aLaid, .int wid, .int hei, .ref aPcs, .ref aTold, .int toldMany, .int spot, .int wrong])), (aZ, .inl (cI, 207, .inl zz)), (aPcs, .inl (cI, 64, .inl m_pcs))] H → va_D A [(aM, .inr (5, [.ref aZ, .ref aPast, .int pastMany, .ref aKz, .int isKept, .ref aBuf, .int typed, .ref aStk, .ref aLaid, .int wid, .int hei, .ref aPcs, .ref aTold, .int toldMany, .int spot, .int wrong])), (aZ, .inl (cI, 207, .inl zz)), (aPcs, .inl (cI, 64, .inl m_pcs))] → va_S A s.heap H locs → post m_pcs → W p l e ({ frames := 1, cells := 0, slots := 0, locals := 24 } : Room) s m ([.ref aM] : List Value).toArray below meth c H locs 0 0 Q (F0 m pc ls [])) (fun Q hret => ?_) ?_
  rotate_left
  · intro pc ls H locs m_pcs hdg hP hD hS hpost
    exact W.vret hx hb hr (fun t ht hW => ⟨⟨m_pcs, rfl, hpost, by rw [ht]; exact hP, va_K.moved hW.alike hK, hD⟩, hS.F ht⟩) hS.2.2 hdg
  refine lv_iconst (v := 0) hx hb dX6_layPieces_0 (by decide) ?_
  refine lv_istore_n (lv' := [(1, .int (0 : Int32)), (0, .ref aM)]) hx hb dX6_layPieces_1 rfl hl (by decide) rfl (fun ls hl => ?_)
  have hq := hq (fun (v1_1 : Int32) (pcs__2 : Nat → Int32) => ∀ (H : Heap) (locs : List Loc) (ls : Array Slot), va_P (dC, dI) vwCl [(aM, .inr (5, [.ref aZ, .ref aPast, .int pastMany, .ref aKz, .int isKept, .ref aBuf, .int typed, .ref aStk, .ref aLaid, .int wid, .int hei, .ref aPcs, .ref aTold, .int toldMany, .int spot, .int wrong])), (aZ, .inl (cI, 207, .inl zz)), (aPcs, .inl (cI, 64, .inl pcs__2))] H → va_D A [(aM, .inr (5, [.ref aZ, .ref aPast, .int pastMany, .ref aKz, .int isKept, .ref aBuf, .int typed, .ref aStk, .ref aLaid, .int wid, .int hei, .ref aPcs, .ref aTold, .int toldMany, .int spot, .int wrong])), (aZ, .inl (cI, 207, .inl zz)), (aPcs, .inl (cI, 64, .inl pcs__2))] → va_S A s.heap H locs → lv_has ls 3 [(0, .ref aM), (1, .int v1_1)] → W p l e ({ frames := 1, cells := 0, slots := 0, locals := 24 } : Room) s m ([.ref aM] : List Value).toArray below meth c H locs 0 0 Q (F0 m 2 ls [])) (by
    intro v1_1 pcs__2 hq H locs ls hP hD hS hl
    refine lv_iload_n hx hb dX6_layPieces_2 rfl (lv_at hl 1 rfl) ?_
    refine lv_bipush (v := 64) hx hb dX6_layPieces_3 (by decide) ?_
    refine lv_icmp_ge (tgt := 21) hx hb dX6_layPieces_5 (by decide) (fun hc => ?_) (fun hc => ?_)
    · have hq := hq.1 hc
      refine lv_iconst (v := 1) hx hb dX6_layPieces_21 (by decide) ?_
      refine lv_istore_n (lv' := [(1, .int (1 : Int32)), (0, .ref aM)]) hx hb dX6_layPieces_22 rfl hl (by decide) rfl (fun ls hl => ?_)
      have hq := hq (fun (v1_3 : Int32) (pcs__4 : Nat → Int32) => ∀ (H : Heap) (locs : List Loc) (ls : Array Slot), va_P (dC, dI) vwCl [(aM, .inr (5, [.ref aZ, .ref aPast, .int pastMany, .ref aKz, .int isKept, .ref aBuf, .int typed, .ref aStk, .ref aLaid, .int wid, .int hei, .ref aPcs, .ref aTold, .int toldMany, .int spot, .int wrong])), (aZ, .inl (cI, 207, .inl zz)), (aPcs, .inl (cI, 64, .inl pcs__4))] H → va_D A [(aM, .inr (5, [.ref aZ, .ref aPast, .int pastMany, .ref aKz, .int isKept, .ref aBuf, .int typed, .ref aStk, .ref aLaid, .int wid, .int hei, .ref aPcs, .ref aTold, .int toldMany, .int spot, .int wrong])), (aZ, .inl (cI, 207, .inl zz)), (aPcs, .inl (cI, 64, .inl pcs__4))] → va_S A s.heap H locs → lv_has ls 3 [(0, .ref aM), (1, .int v1_3)] → W p l e ({ frames := 1, cells := 0, slots := 0, locals := 24 } : Room) s m ([.ref aM] : List Value).toArray below meth c H locs 0 0 Q (F0 m 23 ls [])) (by
        intro v1_3 pcs__4 hq H locs ls hP hD hS hl
        refine lv_iload_n hx hb dX6_layPieces_23 rfl (lv_at hl 1 rfl) ?_
        refine lv_if_eq (tgt := 104) hx hb dX6_layPieces_24 (by decide) (fun hc => ?_) (fun hc => ?_)
        · have hq := hq.1 hc
          exact hret _ _ _ _ _ dX6_layPieces_104 hP hD hS hq
        · have hq := hq.2 hc
          refine lv_iconst (v := 0) hx hb dX6_layPieces_27 (by decide) ?_
          refine lv_istore_n (lv' := [(1, .int (0 : Int32)), (0, .ref aM)]) hx hb dX6_layPieces_28 rfl hl (by decide) rfl (fun ls hl => ?_)
          refine lv_iconst (v := 0) hx hb dX6_layPieces_29 (by decide) ?_
          refine lv_istore_n (lv' := [(2, .int (0 : Int32)), (1, .int (0 : Int32)), (0, .ref aM)]) hx hb dX6_layPieces_30 rfl hl (by decide) rfl (fun ls hl => ?_)
          have hq := hq (fun (v1_5 : Int32) (v2_6 : Int32) (pcs__7 : Nat → Int32) => ∀ (H : Heap) (locs : List Loc) (ls : Array Slot), va_P (dC, dI) vwCl [(aM, .inr (5, [.ref aZ, .ref aPast, .int pastMany, .ref aKz, .int isKept, .ref aBuf, .int typed, .ref aStk, .ref aLaid, .int wid, .int hei, .ref aPcs, .ref aTold, .int toldMany, .int spot, .int wrong])), (aZ, .inl (cI, 207, .inl zz)), (aPcs, .inl (cI, 64, .inl pcs__7))] H → va_D A [(aM, .inr (5, [.ref aZ, .ref aPast, .int pastMany, .ref aKz, .int isKept, .ref aBuf, .int typed, .ref aStk, .ref aLaid, .int wid, .int hei, .ref aPcs, .ref aTold, .int toldMany, .int spot, .int wrong])), (aZ, .inl (cI, 207, .inl zz)), (aPcs, .inl (cI, 64, .inl pcs__7))] → va_S A s.heap H locs → lv_has ls 3 [(0, .ref aM), (1, .int v1_5), (2, .int v2_6)] → W p l e ({ frames := 1, cells := 0, slots := 0, locals := 24 } : Room) s m ([.ref aM] : List Value).toArray below meth c H locs 0 0 Q (F0 m 31 ls [])) (by
            intro v1_5 v2_6 pcs__7 hq H locs ls hP hD hS hl
            refine lv_iload_n hx hb dX6_layPieces_31 rfl (lv_at hl 2 rfl) ?_
            refine lv_bipush (v := 64) hx hb dX6_layPieces_32 (by decide) ?_
            refine lv_icmp_ge (tgt := 101) hx hb dX6_layPieces_34 (by decide) (fun hc => ?_) (fun hc => ?_)
            · have hq := hq.1 hc
              refine lv_goto (tgt := 23) hx hb dX6_layPieces_101 (by decide) ?_
              exact hq _ _ _ hP hD hS (lv_sub hl [0, 1] rfl)
            · have hq := hq.2 hc
              refine lv_iload_n hx hb dX6_layPieces_37 rfl (lv_at hl 2 rfl) ?_
              refine lv_bipush (v := 8) hx hb dX6_layPieces_38 (by decide) ?_
              refine lv_irem hx hb dX6_layPieces_40 (by decide) ?_
              refine lv_bipush (v := 7) hx hb dX6_layPieces_41 (by decide) ?_
              have hq := hq (fun (t_8 : Int32) (pcs__9 : Nat → Int32) => ∀ (H : Heap) (locs : List Loc) (ls : Array Slot), va_P (dC, dI) vwCl [(aM, .inr (5, [.ref aZ, .ref aPast, .int pastMany, .ref aKz, .int isKept, .ref aBuf, .int typed, .ref aStk, .ref aLaid, .int wid, .int hei, .ref aPcs, .ref aTold, .int toldMany, .int spot, .int wrong])), (aZ, .inl (cI, 207, .inl zz)), (aPcs, .inl (cI, 64, .inl pcs__9))] H → va_D A [(aM, .inr (5, [.ref aZ, .ref aPast, .int pastMany, .ref aKz, .int isKept, .ref aBuf, .int typed, .ref aStk, .ref aLaid, .int wid, .int hei, .ref aPcs, .ref aTold, .int toldMany, .int spot, .int wrong])), (aZ, .inl (cI, 207, .inl zz)), (aPcs, .inl (cI, 64, .inl pcs__9))] → va_S A s.heap H locs → lv_has ls 3 [(0, .ref aM), (2, .int v2_6)] → W p l e ({ frames := 1, cells := 0, slots := 0, locals := 24 } : Room) s m ([.ref aM] : List Value).toArray below meth c H locs 0 0 Q (F0 m 66 ls [.int t_8])) (by
                intro t_8 pcs__9 hq H locs ls hP hD hS hl
                refine lv_istore_n (lv' := [(1, .int t_8), (0, .ref aM), (2, .int v2_6)]) hx hb dX6_layPieces_66 rfl hl (by decide) rfl (fun ls hl => ?_)
                refine lv_iload_n hx hb dX6_layPieces_67 rfl (lv_at hl 2 rfl) ?_
                refine lv_bipush (v := 56) hx hb dX6_layPieces_68 (by decide) ?_
                have hq := hq (fun (t_10 : Int32) (pcs__11 : Nat → Int32) => ∀ (H : Heap) (locs : List Loc) (ls : Array Slot), va_P (dC, dI) vwCl [(aM, .inr (5, [.ref aZ, .ref aPast, .int pastMany, .ref aKz, .int isKept, .ref aBuf, .int typed, .ref aStk, .ref aLaid, .int wid, .int hei, .ref aPcs, .ref aTold, .int toldMany, .int spot, .int wrong])), (aZ, .inl (cI, 207, .inl zz)), (aPcs, .inl (cI, 64, .inl pcs__11))] H → va_D A [(aM, .inr (5, [.ref aZ, .ref aPast, .int pastMany, .ref aKz, .int isKept, .ref aBuf, .int typed, .ref aStk, .ref aLaid, .int wid, .int hei, .ref aPcs, .ref aTold, .int toldMany, .int spot, .int wrong])), (aZ, .inl (cI, 207, .inl zz)), (aPcs, .inl (cI, 64, .inl pcs__11))] → va_S A s.heap H locs → lv_has ls 3 [(0, .ref aM), (2, .int v2_6)] → W p l e ({ frames := 1, cells := 0, slots := 0, locals := 24 } : Room) s m ([.ref aM] : List Value).toArray below meth c H locs 0 0 Q (F0 m 94 ls [.int t_10])) (by
                  intro t_10 pcs__11 hq H locs ls hP hD hS hl
                  refine lv_istore_n (lv' := [(1, .int t_10), (0, .ref aM), (2, .int v2_6)]) hx hb dX6_layPieces_94 rfl hl (by decide) rfl (fun ls hl => ?_)
                  refine lv_iinc (v := (v2_6 + (1 : Int32))) (lv' := [(2, .int (v2_6 + (1 : Int32))), (1, .int t_10), (0, .ref aM)]) hx hb dX6_layPieces_95 hl (k := 2) rfl rfl (by decide) rfl (fun ls hl => ?_)
                  refine lv_goto (tgt := 31) hx hb dX6_layPieces_98 (by decide) ?_
                  exact hq _ _ _ hP hD hS (lv_sub hl [2, 1, 0] rfl))
                have hq := hq (fun (pcs__12 : Nat → Int32) => ∀ (H : Heap) (locs : List Loc) (ls : Array Slot), va_P (dC, dI) vwCl [(aM, .inr (5, [.ref aZ, .ref aPast, .int pastMany, .ref aKz, .int isKept, .ref aBuf, .int typed, .ref aStk, .ref aLaid, .int wid, .int hei, .ref aPcs, .ref aTold, .int toldMany, .int spot, .int wrong])), (aZ, .inl (cI, 207, .inl zz)), (aPcs, .inl (cI, 64, .inl pcs__12))] H → va_D A [(aM, .inr (5, [.ref aZ, .ref aPast, .int pastMany, .ref aKz, .int isKept, .ref aBuf, .int typed, .ref aStk, .ref aLaid, .int wid, .int hei, .ref aPcs, .ref aTold, .int toldMany, .int spot, .int wrong])), (aZ, .inl (cI, 207, .inl zz)), (aPcs, .inl (cI, 64, .inl pcs__12))] → va_S A s.heap H locs → lv_has ls 3 [(0, .ref aM), (2, .int v2_6)] → W p l e ({ frames := 1, cells := 0, slots := 0, locals := 24 } : Room) s m ([.ref aM] : List Value).toArray below meth c H locs 0 0 Q (F0 m 89 ls [])) (by
                  intro pcs__12 hq H locs ls hP hD hS hl
                  refine lv_iconst (v := 1) hx hb dX6_layPieces_89 (by decide) ?_
                  refine lv_goto (tgt := 94) hx hb dX6_layPieces_90 (by decide) ?_
                  exact hq _ _ _ hP hD hS (lv_sub hl [0, 1] rfl))
                have hq := hq (fun (pcs__13 : Nat → Int32) => ∀ (H : Heap) (locs : List Loc) (ls : Array Slot), va_P (dC, dI) vwCl [(aM, .inr (5, [.ref aZ, .ref aPast, .int pastMany, .ref aKz, .int isKept, .ref aBuf, .int typed, .ref aStk, .ref aLaid, .int wid, .int hei, .ref aPcs, .ref aTold, .int toldMany, .int spot, .int wrong])), (aZ, .inl (cI, 207, .inl zz)), (aPcs, .inl (cI, 64, .inl pcs__13))] H → va_D A [(aM, .inr (5, [.ref aZ, .ref aPast, .int pastMany, .ref aKz, .int isKept, .ref aBuf, .int typed, .ref aStk, .ref aLaid, .int wid, .int hei, .ref aPcs, .ref aTold, .int toldMany, .int spot, .int wrong])), (aZ, .inl (cI, 207, .inl zz)), (aPcs, .inl (cI, 64, .inl pcs__13))] → va_S A s.heap H locs → lv_has ls 3 [(0, .ref aM), (1, .int t_8), (2, .int v2_6)] → W p l e ({ frames := 1, cells := 0, slots := 0, locals := 24 } : Room) s m ([.ref aM] : List Value).toArray below meth c H locs 0 0 Q (F0 m 85 ls [])) (by
                  intro pcs__13 hq H locs ls hP hD hS hl
                  refine lv_iload_n hx hb dX6_layPieces_85 rfl (lv_at hl 1 rfl) ?_
                  refine lv_if_eq (tgt := 93) hx hb dX6_layPieces_86 (by decide) (fun hc => ?_) (fun hc => ?_)
                  · have hq := hq.1 hc
                    refine lv_iconst (v := 0) hx hb dX6_layPieces_93 (by decide) ?_
                    exact hq _ _ _ hP hD hS (lv_sub hl [0, 2] rfl)
                  · have hq := hq.2 hc
                    exact hq _ _ _ hP hD hS (lv_sub hl [0, 2] rfl))
                refine lv_icmp_ge (tgt := 85) hx hb dX6_layPieces_70 (by decide) (fun hc => ?_) (fun hc => ?_)
                · have hq := hq.1 hc
                  exact hq _ _ _ hP hD hS (lv_sub hl [1, 0, 2] rfl)
                · have hq := hq.2 hc
                  refine lv_aload_n hx hb dX6_layPieces_73 rfl (lv_at hl 1 rfl) ?_
                  refine lv_iload_n hx hb dX6_layPieces_74 rfl (lv_at hl 2 rfl) ?_
                  refine lv_iload_n hx hb dX6_layPieces_75 rfl (lv_at hl 2 rfl) ?_
                  refine lv_bipush (v := 8) hx hb dX6_layPieces_76 (by decide) ?_
                  refine lv_iadd hx hb dX6_layPieces_78 ?_
                  have hPc := hP.sub (ws' := [(aM, .inr (5, [.ref aZ, .ref aPast, .int pastMany, .ref aKz, .int isKept, .ref aBuf, .int typed, .ref aStk, .ref aLaid, .int wid, .int hei, .ref aPcs, .ref aTold, .int toldMany, .int spot, .int wrong])), (aZ, .inl (cI, 207, .inl zz)), (aPcs, .inl (cI, 64, .inl pcs__9))]) [0, 1, 2] rfl
                  have hDc := hD.sub (ws' := [(aM, .inr (5, [.ref aZ, .ref aPast, .int pastMany, .ref aKz, .int isKept, .ref aBuf, .int typed, .ref aStk, .ref aLaid, .int wid, .int hei, .ref aPcs, .ref aTold, .int toldMany, .int spot, .int wrong])), (aZ, .inl (cI, 207, .inl zz)), (aPcs, .inl (cI, 64, .inl pcs__9))]) [0, 1, 2] (by decide) rfl
                  have hFc := va_free (wc := [(aM, .inr (5, [.ref aZ, .ref aPast, .int pastMany, .ref aKz, .int isKept, .ref aBuf, .int typed, .ref aStk, .ref aLaid, .int wid, .int hei, .ref aPcs, .ref aTold, .int toldMany, .int spot, .int wrong])), (aZ, .inl (cI, 207, .inl zz)), (aPcs, .inl (cI, 64, .inl pcs__9))]) hD hS hA [0, 1, 2] rfl
                  refine va_calli (va_runV (As := [.int v2_6, .int (v2_6 + (8 : Int32))]) (rest := []) ⟨hx, hb, hml, hown, hts⟩ (c_X6_joins l dC dI cI cC cS aM aZ aPast aKz aBuf aStk aLaid aPcs aTold _ pastMany isKept typed wid hei toldMany spot wrong zz pcs__9 v2_6 (v2_6 + (8 : Int32)) hq) (cwV 2 hts gX6_layPieces_X6_joins rfl rfl rfl (by decide +kernel) ⟨Nat.le_of_ble_eq_true rfl, Nat.le_of_ble_eq_true rfl⟩) (gn_preV hPc hK hN hDc (ci := 5) (q0 := 0) rfl rfl) rfl rfl hl.1 rfl (lv_room (Nat.le_of_ble_eq_true rfl)) dX6_layPieces_79 ⟨Nat.zero_le _, Nat.zero_le _⟩) hS (fun q _ h => hFc q h) hFc (fun r_14 u t H1 locs ht hvm hq hB hz1 hk1 hS => ?_)
                  obtain ⟨pcs__15, rfl⟩ : ∃ z, z = u := ⟨_, rfl⟩
                  obtain ⟨hP1, hK1, hD1⟩ := hB
                  rw [ht] at hP1
                  try dsimp only at hq
                  obtain ⟨hP, hD⟩ := va_join (wr := []) (w1 := [(aM, .inr (5, [.ref aZ, .ref aPast, .int pastMany, .ref aKz, .int isKept, .ref aBuf, .int typed, .ref aStk, .ref aLaid, .int wid, .int hei, .ref aPcs, .ref aTold, .int toldMany, .int spot, .int wrong])), (aZ, .inl (cI, 207, .inl zz)), (aPcs, .inl (cI, 64, .inl pcs__15))]) hP hD [0, 1, 2] [] rfl rfl (by decide) (by decide) hk1 hFc hP1 hD1
                  have hP := hP.sub (ws' := [(aM, .inr (5, [.ref aZ, .ref aPast, .int pastMany, .ref aKz, .int isKept, .ref aBuf, .int typed, .ref aStk, .ref aLaid, .int wid, .int hei, .ref aPcs, .ref aTold, .int toldMany, .int spot, .int wrong])), (aZ, .inl (cI, 207, .inl zz)), (aPcs, .inl (cI, 64, .inl pcs__15))]) [0, 1, 2] rfl
                  have hD := hD.sub (ws' := [(aM, .inr (5, [.ref aZ, .ref aPast, .int pastMany, .ref aKz, .int isKept, .ref aBuf, .int typed, .ref aStk, .ref aLaid, .int wid, .int hei, .ref aPcs, .ref aTold, .int toldMany, .int spot, .int wrong])), (aZ, .inl (cI, 207, .inl zz)), (aPcs, .inl (cI, 64, .inl pcs__15))]) [0, 1, 2] (by decide) rfl
                  generalize H1 = H at hP hS ⊢
                  refine lv_if_ne (tgt := 89) hx hb dX6_layPieces_82 (by decide) (fun hc => ?_) (fun hc => ?_)
                  · have hq := hq.1 hc
                    exact hq _ _ _ hP hD hS (lv_sub hl [1, 2] rfl)
                  · have hq := hq.2 hc
                    exact hq _ _ _ hP hD hS (lv_sub hl [1, 0, 2] rfl))
              have hq := hq (fun (pcs__16 : Nat → Int32) => ∀ (H : Heap) (locs : List Loc) (ls : Array Slot), va_P (dC, dI) vwCl [(aM, .inr (5, [.ref aZ, .ref aPast, .int pastMany, .ref aKz, .int isKept, .ref aBuf, .int typed, .ref aStk, .ref aLaid, .int wid, .int hei, .ref aPcs, .ref aTold, .int toldMany, .int spot, .int wrong])), (aZ, .inl (cI, 207, .inl zz)), (aPcs, .inl (cI, 64, .inl pcs__16))] H → va_D A [(aM, .inr (5, [.ref aZ, .ref aPast, .int pastMany, .ref aKz, .int isKept, .ref aBuf, .int typed, .ref aStk, .ref aLaid, .int wid, .int hei, .ref aPcs, .ref aTold, .int toldMany, .int spot, .int wrong])), (aZ, .inl (cI, 207, .inl zz)), (aPcs, .inl (cI, 64, .inl pcs__16))] → va_S A s.heap H locs → lv_has ls 3 [(0, .ref aM), (2, .int v2_6)] → W p l e ({ frames := 1, cells := 0, slots := 0, locals := 24 } : Room) s m ([.ref aM] : List Value).toArray below meth c H locs 0 0 Q (F0 m 61 ls [])) (by
                intro pcs__16 hq H locs ls hP hD hS hl
                refine lv_iconst (v := 1) hx hb dX6_layPieces_61 (by decide) ?_
                refine lv_goto (tgt := 66) hx hb dX6_layPieces_62 (by decide) ?_
                exact hq _ _ _ hP hD hS (lv_sub hl [0, 1] rfl))
              have hq := hq (fun (pcs__17 : Nat → Int32) => ∀ (H : Heap) (locs : List Loc) (ls : Array Slot), va_P (dC, dI) vwCl [(aM, .inr (5, [.ref aZ, .ref aPast, .int pastMany, .ref aKz, .int isKept, .ref aBuf, .int typed, .ref aStk, .ref aLaid, .int wid, .int hei, .ref aPcs, .ref aTold, .int toldMany, .int spot, .int wrong])), (aZ, .inl (cI, 207, .inl zz)), (aPcs, .inl (cI, 64, .inl pcs__17))] H → va_D A [(aM, .inr (5, [.ref aZ, .ref aPast, .int pastMany, .ref aKz, .int isKept, .ref aBuf, .int typed, .ref aStk, .ref aLaid, .int wid, .int hei, .ref aPcs, .ref aTold, .int toldMany, .int spot, .int wrong])), (aZ, .inl (cI, 207, .inl zz)), (aPcs, .inl (cI, 64, .inl pcs__17))] → va_S A s.heap H locs → lv_has ls 3 [(0, .ref aM), (1, .int v1_5), (2, .int v2_6)] → W p l e ({ frames := 1, cells := 0, slots := 0, locals := 24 } : Room) s m ([.ref aM] : List Value).toArray below meth c H locs 0 0 Q (F0 m 57 ls [])) (by
                intro pcs__17 hq H locs ls hP hD hS hl
                refine lv_iload_n hx hb dX6_layPieces_57 rfl (lv_at hl 1 rfl) ?_
                refine lv_if_eq (tgt := 65) hx hb dX6_layPieces_58 (by decide) (fun hc => ?_) (fun hc => ?_)
                · have hq := hq.1 hc
                  refine lv_iconst (v := 0) hx hb dX6_layPieces_65 (by decide) ?_
                  exact hq _ _ _ hP hD hS (lv_sub hl [0, 2] rfl)
                · have hq := hq.2 hc
                  exact hq _ _ _ hP hD hS (lv_sub hl [0, 2] rfl))
              refine lv_icmp_ge (tgt := 57) hx hb dX6_layPieces_43 (by decide) (fun hc => ?_) (fun hc => ?_)
              · have hq := hq.1 hc
                exact hq _ _ _ hP hD hS (lv_sub hl [0, 1, 2] rfl)
              · have hq := hq.2 hc
                refine lv_aload_n hx hb dX6_layPieces_46 rfl (lv_at hl 0 rfl) ?_
                refine lv_iload_n hx hb dX6_layPieces_47 rfl (lv_at hl 2 rfl) ?_
                refine lv_iload_n hx hb dX6_layPieces_48 rfl (lv_at hl 2 rfl) ?_
                refine lv_iconst (v := 1) hx hb dX6_layPieces_49 (by decide) ?_
                refine lv_iadd hx hb dX6_layPieces_50 ?_
                have hPc := hP.sub (ws' := [(aM, .inr (5, [.ref aZ, .ref aPast, .int pastMany, .ref aKz, .int isKept, .ref aBuf, .int typed, .ref aStk, .ref aLaid, .int wid, .int hei, .ref aPcs, .ref aTold, .int toldMany, .int spot, .int wrong])), (aZ, .inl (cI, 207, .inl zz)), (aPcs, .inl (cI, 64, .inl pcs__7))]) [0, 1, 2] rfl
                have hDc := hD.sub (ws' := [(aM, .inr (5, [.ref aZ, .ref aPast, .int pastMany, .ref aKz, .int isKept, .ref aBuf, .int typed, .ref aStk, .ref aLaid, .int wid, .int hei, .ref aPcs, .ref aTold, .int toldMany, .int spot, .int wrong])), (aZ, .inl (cI, 207, .inl zz)), (aPcs, .inl (cI, 64, .inl pcs__7))]) [0, 1, 2] (by decide) rfl
                have hFc := va_free (wc := [(aM, .inr (5, [.ref aZ, .ref aPast, .int pastMany, .ref aKz, .int isKept, .ref aBuf, .int typed, .ref aStk, .ref aLaid, .int wid, .int hei, .ref aPcs, .ref aTold, .int toldMany, .int spot, .int wrong])), (aZ, .inl (cI, 207, .inl zz)), (aPcs, .inl (cI, 64, .inl pcs__7))]) hD hS hA [0, 1, 2] rfl
                refine va_calli (va_runV (As := [.int v2_6, .int (v2_6 + (1 : Int32))]) (rest := []) ⟨hx, hb, hml, hown, hts⟩ (c_X6_joins l dC dI cI cC cS aM aZ aPast aKz aBuf aStk aLaid aPcs aTold _ pastMany isKept typed wid hei toldMany spot wrong zz pcs__7 v2_6 (v2_6 + (1 : Int32)) hq) (cwV 2 hts gX6_layPieces_X6_joins rfl rfl rfl (by decide +kernel) ⟨Nat.le_of_ble_eq_true rfl, Nat.le_of_ble_eq_true rfl⟩) (gn_preV hPc hK hN hDc (ci := 5) (q0 := 0) rfl rfl) rfl rfl hl.1 rfl (lv_room (Nat.le_of_ble_eq_true rfl)) dX6_layPieces_51 ⟨Nat.zero_le _, Nat.zero_le _⟩) hS (fun q _ h => hFc q h) hFc (fun r_18 u t H1 locs ht hvm hq hB hz1 hk1 hS => ?_)
                obtain ⟨pcs__19, rfl⟩ : ∃ z, z = u := ⟨_, rfl⟩
                obtain ⟨hP1, hK1, hD1⟩ := hB
                rw [ht] at hP1
                try dsimp only at hq
                obtain ⟨hP, hD⟩ := va_join (wr := []) (w1 := [(aM, .inr (5, [.ref aZ, .ref aPast, .int pastMany, .ref aKz, .int isKept, .ref aBuf, .int typed, .ref aStk, .ref aLaid, .int wid, .int hei, .ref aPcs, .ref aTold, .int toldMany, .int spot, .int wrong])), (aZ, .inl (cI, 207, .inl zz)), (aPcs, .inl (cI, 64, .inl pcs__19))]) hP hD [0, 1, 2] [] rfl rfl (by decide) (by decide) hk1 hFc hP1 hD1
                have hP := hP.sub (ws' := [(aM, .inr (5, [.ref aZ, .ref aPast, .int pastMany, .ref aKz, .int isKept, .ref aBuf, .int typed, .ref aStk, .ref aLaid, .int wid, .int hei, .ref aPcs, .ref aTold, .int toldMany, .int spot, .int wrong])), (aZ, .inl (cI, 207, .inl zz)), (aPcs, .inl (cI, 64, .inl pcs__19))]) [0, 1, 2] rfl
                have hD := hD.sub (ws' := [(aM, .inr (5, [.ref aZ, .ref aPast, .int pastMany, .ref aKz, .int isKept, .ref aBuf, .int typed, .ref aStk, .ref aLaid, .int wid, .int hei, .ref aPcs, .ref aTold, .int toldMany, .int spot, .int wrong])), (aZ, .inl (cI, 207, .inl zz)), (aPcs, .inl (cI, 64, .inl pcs__19))]) [0, 1, 2] (by decide) rfl
                generalize H1 = H at hP hS ⊢
                refine lv_if_ne (tgt := 61) hx hb dX6_layPieces_54 (by decide) (fun hc => ?_) (fun hc => ?_)
                · have hq := hq.1 hc
                  exact hq _ _ _ hP hD hS (lv_sub hl [0, 2] rfl)
                · have hq := hq.2 hc
                  exact hq _ _ _ hP hD hS (lv_sub hl [0, 1, 2] rfl))
          exact hq _ _ _ hP hD hS (lv_sub hl [2, 1, 0] rfl))
      exact hq _ _ _ hP hD hS (lv_sub hl [1, 0] rfl)
    · have hq := hq.2 hc
      refine lv_aload_n hx hb dX6_layPieces_8 rfl (lv_at hl 0 rfl) ?_
      refine va_get (D := (dC, dI)) (ci := 5) (v := .ref aPcs) (C := RX6) (T := TX6) (N := 16) hx hb hts iwX6_layPieces_X6 hown hK hP 0 rfl rfl 11 (by decide) (hts _ kwX6_layPieces_29) (fun _ h9 => h9) rfl dX6_layPieces_9 ?_
      refine lv_iload_n hx hb dX6_layPieces_12 rfl (lv_at hl 1 rfl) ?_
      refine lv_iload_n hx hb dX6_layPieces_13 rfl (lv_at hl 1 rfl) ?_
      have hin := hq.1
      have hq := hq.2
      refine va_iast hx hb hK hP hD hS 2 0 rfl rfl hin dX6_layPieces_14 (fun H locs hP hD hS => ?_)
      have hP : va_P (dC, dI) vwCl [(aM, .inr (5, [.ref aZ, .ref aPast, .int pastMany, .ref aKz, .int isKept, .ref aBuf, .int typed, .ref aStk, .ref aLaid, .int wid, .int hei, .ref aPcs, .ref aTold, .int toldMany, .int spot, .int wrong])), (aZ, .inl (cI, 207, .inl zz)), (aPcs, .inl (cI, 64, .inl (upd pcs__2 (v1_1).toNatClampNeg v1_1)))] H := hP
      have hD : va_D A [(aM, .inr (5, [.ref aZ, .ref aPast, .int pastMany, .ref aKz, .int isKept, .ref aBuf, .int typed, .ref aStk, .ref aLaid, .int wid, .int hei, .ref aPcs, .ref aTold, .int toldMany, .int spot, .int wrong])), (aZ, .inl (cI, 207, .inl zz)), (aPcs, .inl (cI, 64, .inl (upd pcs__2 (v1_1).toNatClampNeg v1_1)))] := hD
      refine lv_iinc (v := (v1_1 + (1 : Int32))) (lv' := [(1, .int (v1_1 + (1 : Int32))), (0, .ref aM)]) hx hb dX6_layPieces_15 hl (k := 1) rfl rfl (by decide) rfl (fun ls hl => ?_)
      refine lv_goto (tgt := 2) hx hb dX6_layPieces_18 (by decide) ?_
      exact hq _ _ _ hP hD hS (lv_sub hl [1, 0] rfl))
  exact hq _ _ _ hP hD hS (lv_sub hl [1, 0] rfl)
set_option maxRecDepth 20000 in
theorem kwX6_pieceSize_7 : Cond.fieldLink RX6 7 "PunchedFoldsModel" "z" "[I" ∈ wsX6_pieceSize := by decide +kernel
set_option maxRecDepth 20000 in
theorem iwX6_pieceSize_X6 : ∀ w ∈ wsX60, w ∈ wsX6_pieceSize := by decide +kernel
set_option maxRecDepth 20000 in
theorem kwX6_pieceSize_29 : Cond.fieldLink RX6 29 "PunchedFoldsModel" "pieces" "[I" ∈ wsX6_pieceSize := by decide +kernel
set_option maxHeartbeats 4000000 in
set_option maxRecDepth 100000 in
theorem c_X6_pieceSize (l : Launch) (dC : Nat → ClassId) (dI : Nat → Nat → Nat) (cI cC cS : ClassId) (aM : Nat) (aZ : Nat) (aPast : Nat) (aKz : Nat) (aBuf : Nat) (aStk : Nat) (aLaid : Nat) (aPcs : Nat) (aTold : Nat) (sz : Nat) (pastMany : Int32) (isKept : Int32) (typed : Int32) (wid : Int32) (hei : Int32) (toldMany : Int32) (spot : Int32) (wrong : Int32) (zz : Nat → Int32) (pcs : Nat → Int32) (x1 : Int32) {post : Int32 → Prop} (hq : wp_X6_pieceSize zz pcs x1 post) : Met l yX6_pieceSize wsX6_pieceSize ({ frames := 0, cells := 0, slots := 0, locals := 0 } : Room) (gn_Pre (dC, dI) cI cC cS [.ref aM, .int x1] sz [(aM, .inr (5, [.ref aZ, .ref aPast, .int pastMany, .ref aKz, .int isKept, .ref aBuf, .int typed, .ref aStk, .ref aLaid, .int wid, .int hei, .ref aPcs, .ref aTold, .int toldMany, .int spot, .int wrong])), (aZ, .inl (cI, 207, .inl zz)), (aPcs, .inl (cI, 64, .inl pcs))]) (va_Qi (fun (r : Int32) (u : Unit) => post r) (fun (u : Unit) t => va_P (dC, dI) vwCl [(aM, .inr (5, [.ref aZ, .ref aPast, .int pastMany, .ref aKz, .int isKept, .ref aBuf, .int typed, .ref aStk, .ref aLaid, .int wid, .int hei, .ref aPcs, .ref aTold, .int toldMany, .int spot, .int wrong])), (aZ, .inl (cI, 207, .inl zz)), (aPcs, .inl (cI, 64, .inl pcs))] t.heap ∧ va_K (dC, dI) vwCl (gn_tys cI cC cS) t ∧ va_D (va_A [(aM, .inr (5, [.ref aZ, .ref aPast, .int pastMany, .ref aKz, .int isKept, .ref aBuf, .int typed, .ref aStk, .ref aLaid, .int wid, .int hei, .ref aPcs, .ref aTold, .int toldMany, .int spot, .int wrong])), (aZ, .inl (cI, 207, .inl zz)), (aPcs, .inl (cI, 64, .inl pcs))] sz) [(aM, .inr (5, [.ref aZ, .ref aPast, .int pastMany, .ref aKz, .int isKept, .ref aBuf, .int typed, .ref aStk, .ref aLaid, .int wid, .int hei, .ref aPcs, .ref aTold, .int toldMany, .int spot, .int wrong])), (aZ, .inl (cI, 207, .inl zz)), (aPcs, .inl (cI, 64, .inl pcs))]) (va_A [(aM, .inr (5, [.ref aZ, .ref aPast, .int pastMany, .ref aKz, .int isKept, .ref aBuf, .int typed, .ref aStk, .ref aLaid, .int wid, .int hei, .ref aPcs, .ref aTold, .int toldMany, .int spot, .int wrong])), (aZ, .inl (cI, 207, .inl zz)), (aPcs, .inl (cI, 64, .inl pcs))] sz)) 0 0 (va_A [(aM, .inr (5, [.ref aZ, .ref aPast, .int pastMany, .ref aKz, .int isKept, .ref aBuf, .int typed, .ref aStk, .ref aLaid, .int wid, .int hei, .ref aPcs, .ref aTold, .int toldMany, .int spot, .int wrong])), (aZ, .inl (cI, 207, .inl zz)), (aPcs, .inl (cI, 64, .inl pcs))] sz) := by
  unfold wp_X6_pieceSize at hq
  refine Met.ofW (cc := cX6_pieceSize) (maxL := 4) (ret := (some .int)) (by decide) rfl ?_
  intro p e s m args below meth c s₁ B hml hv
  obtain ⟨rfl, hsz, hP, hK, hN, hD0⟩ := hv
  have hx := B.exec
  have hb := B.bytes
  have hr := B.returns
  have hts := atoms_spec (ws := wsX6_pieceSize) B.pre
  have hown : s.vm.findClass RX6 = some m.cls := findClass_of_methodNamed B.named
  have hlocks := B.notSynchronized
  subst hsz
  have hD := hD0.self (sz := s.heap.size)
  generalize hAe : va_A [(aM, .inr (5, [.ref aZ, .ref aPast, .int pastMany, .ref aKz, .int isKept, .ref aBuf, .int typed, .ref aStk, .ref aLaid, .int wid, .int hei, .ref aPcs, .ref aTold, .int toldMany, .int spot, .int wrong])), (aZ, .inl (cI, 207, .inl zz)), (aPcs, .inl (cI, 64, .inl pcs))] s.heap.size = A at hD ⊢
  have hA : ∀ q : Nat, s.heap.size ≤ q → A q := fun q h => by rw [← hAe]; exact Or.inr h
  have hS : va_S A s.heap s.heap [] := va_S.rf
  have hl := lv_entry ([.ref aM, .int x1] : List Value) (n := 4) (Nat.le_of_ble_eq_true rfl)
  rw [lg_entry_eq]
  generalize (lg_sl ([.ref aM, .int x1] : List Value) ++ List.replicate (4 - (lg_sl ([.ref aM, .int x1] : List Value)).length) Slot.unset).toArray = ls at hl ⊢
  have hl : lv_has ls 4 [(0, .ref aM), (1, .int x1)] := hl
  refine gn_Q (hret := fun Q => ∀ (pc : Nat) (ls : Array Slot) (H : Heap) (locs : List Loc) (r : Int32) , decode cX6_pieceSize pc = .ok (.ireturn, 1) → va_P (dC, dI) vwCl [(aM, .inr (5, [.ref aZ, .ref aPast, .int pastMany, .ref aKz, .int isKept, .ref aBuf, .int typed, .ref aStk, .ref aLaid, .int wid, .int hei, .ref aPcs, .ref aTold, .int toldMany, .int spot, .int wrong])), (aZ, .inl (cI, 207, .inl zz)), (aPcs, .inl (cI, 64, .inl pcs))] H → va_D A [(aM, .inr (5, [.ref aZ, .ref aPast, .int pastMany, .ref aKz, .int isKept, .ref aBuf, .int typed, .ref aStk, .ref aLaid, .int wid, .int hei, .ref aPcs, .ref aTold, .int toldMany, .int spot, .int wrong])), (aZ, .inl (cI, 207, .inl zz)), (aPcs, .inl (cI, 64, .inl pcs))] → va_S A s.heap H locs → post r → W p l e ({ frames := 0, cells := 0, slots := 0, locals := 0 } : Room) s m ([.ref aM, .int x1] : List Value).toArray below meth c H locs 0 0 Q (F0 m pc ls [.int r])) (fun Q hret => ?_) ?_
  rotate_left
  · intro pc ls H locs r hdg hP hD hS hpost
    exact W.iret (v := r) hx hb hr (fun t ht hW => ⟨⟨r, (), rfl, hpost, by rw [ht]; exact hP, va_K.moved hW.alike hK, hD⟩, hS.F ht⟩) hS.2.2 hdg
  refine lv_iconst (v := 0) hx hb dX6_pieceSize_0 (by decide) ?_
  refine lv_istore_n (lv' := [(2, .int (0 : Int32)), (0, .ref aM), (1, .int x1)]) hx hb dX6_pieceSize_1 rfl hl (by decide) rfl (fun ls hl => ?_)
  refine lv_iconst (v := 0) hx hb dX6_pieceSize_2 (by decide) ?_
  refine lv_istore_n (lv' := [(3, .int (0 : Int32)), (2, .int (0 : Int32)), (0, .ref aM), (1, .int x1)]) hx hb dX6_pieceSize_3 rfl hl (by decide) rfl (fun ls hl => ?_)
  have hq := hq (fun (v2_1 : Int32) (v3_2 : Int32) => ∀ (H : Heap) (locs : List Loc) (ls : Array Slot), va_P (dC, dI) vwCl [(aM, .inr (5, [.ref aZ, .ref aPast, .int pastMany, .ref aKz, .int isKept, .ref aBuf, .int typed, .ref aStk, .ref aLaid, .int wid, .int hei, .ref aPcs, .ref aTold, .int toldMany, .int spot, .int wrong])), (aZ, .inl (cI, 207, .inl zz)), (aPcs, .inl (cI, 64, .inl pcs))] H → va_D A [(aM, .inr (5, [.ref aZ, .ref aPast, .int pastMany, .ref aKz, .int isKept, .ref aBuf, .int typed, .ref aStk, .ref aLaid, .int wid, .int hei, .ref aPcs, .ref aTold, .int toldMany, .int spot, .int wrong])), (aZ, .inl (cI, 207, .inl zz)), (aPcs, .inl (cI, 64, .inl pcs))] → va_S A s.heap H locs → lv_has ls 4 [(0, .ref aM), (1, .int x1), (2, .int v2_1), (3, .int v3_2)] → W p l e ({ frames := 0, cells := 0, slots := 0, locals := 0 } : Room) s m ([.ref aM, .int x1] : List Value).toArray below meth c H locs 0 0 Q (F0 m 4 ls [])) (by
    intro v2_1 v3_2 hq H locs ls hP hD hS hl
    refine lv_iload_n hx hb dX6_pieceSize_4 rfl (lv_at hl 3 rfl) ?_
    refine lv_bipush (v := 64) hx hb dX6_pieceSize_5 (by decide) ?_
    refine lv_icmp_ge (tgt := 46) hx hb dX6_pieceSize_7 (by decide) (fun hc => ?_) (fun hc => ?_)
    · have hq := hq.1 hc
      refine lv_iload_n hx hb dX6_pieceSize_46 rfl (lv_at hl 2 rfl) ?_
      exact hret _ _ _ _ _ dX6_pieceSize_47 hP hD hS hq
    · have hq := hq.2 hc
      refine lv_iload_n hx hb dX6_pieceSize_10 rfl (lv_at hl 2 rfl) ?_
      refine lv_aload_n hx hb dX6_pieceSize_11 rfl (lv_at hl 0 rfl) ?_
      refine va_get (D := (dC, dI)) (ci := 5) (v := .ref aZ) (C := RX6) (T := TX6) (N := 16) hx hb hts iwX6_pieceSize_X6 hown hK hP 0 rfl rfl 0 (by decide) (hts _ kwX6_pieceSize_7) (fun _ h9 => h9) rfl dX6_pieceSize_12 ?_
      refine lv_bipush (v := 7) hx hb dX6_pieceSize_15 (by decide) ?_
      refine lv_iload_n hx hb dX6_pieceSize_17 rfl (lv_at hl 3 rfl) ?_
      refine lv_iadd hx hb dX6_pieceSize_18 ?_
      have hin := hq.1
      have hq := hq.2
      refine va_iald hx hb hK hP 1 0 rfl rfl hin dX6_pieceSize_19 ?_
      have hq := hq (fun (t_3 : Int32) => ∀ (H : Heap) (locs : List Loc) (ls : Array Slot), va_P (dC, dI) vwCl [(aM, .inr (5, [.ref aZ, .ref aPast, .int pastMany, .ref aKz, .int isKept, .ref aBuf, .int typed, .ref aStk, .ref aLaid, .int wid, .int hei, .ref aPcs, .ref aTold, .int toldMany, .int spot, .int wrong])), (aZ, .inl (cI, 207, .inl zz)), (aPcs, .inl (cI, 64, .inl pcs))] H → va_D A [(aM, .inr (5, [.ref aZ, .ref aPast, .int pastMany, .ref aKz, .int isKept, .ref aBuf, .int typed, .ref aStk, .ref aLaid, .int wid, .int hei, .ref aPcs, .ref aTold, .int toldMany, .int spot, .int wrong])), (aZ, .inl (cI, 207, .inl zz)), (aPcs, .inl (cI, 64, .inl pcs))] → va_S A s.heap H locs → lv_has ls 4 [(0, .ref aM), (1, .int x1), (3, .int v3_2)] → W p l e ({ frames := 0, cells := 0, slots := 0, locals := 0 } : Room) s m ([.ref aM, .int x1] : List Value).toArray below meth c H locs 0 0 Q (F0 m 38 ls [.int t_3, .int v2_1])) (by
        intro t_3 hq H locs ls hP hD hS hl
        refine lv_iadd hx hb dX6_pieceSize_38 ?_
        refine lv_topi (fun w2_4 ew2_4 => ?_)
        have hq := hq w2_4 ew2_4
        refine lv_istore_n (lv' := [(2, .int w2_4), (0, .ref aM), (1, .int x1), (3, .int v3_2)]) hx hb dX6_pieceSize_39 rfl hl (by decide) rfl (fun ls hl => ?_)
        refine lv_iinc (v := (v3_2 + (1 : Int32))) (lv' := [(3, .int (v3_2 + (1 : Int32))), (2, .int w2_4), (0, .ref aM), (1, .int x1)]) hx hb dX6_pieceSize_40 hl (k := 3) rfl rfl (by decide) rfl (fun ls hl => ?_)
        refine lv_goto (tgt := 4) hx hb dX6_pieceSize_43 (by decide) ?_
        exact hq _ _ _ hP hD hS (lv_sub hl [2, 3, 1, 0] rfl))
      have hq := hq (∀ (H : Heap) (locs : List Loc) (ls : Array Slot), va_P (dC, dI) vwCl [(aM, .inr (5, [.ref aZ, .ref aPast, .int pastMany, .ref aKz, .int isKept, .ref aBuf, .int typed, .ref aStk, .ref aLaid, .int wid, .int hei, .ref aPcs, .ref aTold, .int toldMany, .int spot, .int wrong])), (aZ, .inl (cI, 207, .inl zz)), (aPcs, .inl (cI, 64, .inl pcs))] H → va_D A [(aM, .inr (5, [.ref aZ, .ref aPast, .int pastMany, .ref aKz, .int isKept, .ref aBuf, .int typed, .ref aStk, .ref aLaid, .int wid, .int hei, .ref aPcs, .ref aTold, .int toldMany, .int spot, .int wrong])), (aZ, .inl (cI, 207, .inl zz)), (aPcs, .inl (cI, 64, .inl pcs))] → va_S A s.heap H locs → lv_has ls 4 [(0, .ref aM), (1, .int x1), (3, .int v3_2)] → W p l e ({ frames := 0, cells := 0, slots := 0, locals := 0 } : Room) s m ([.ref aM, .int x1] : List Value).toArray below meth c H locs 0 0 Q (F0 m 37 ls [.int v2_1])) (by
        intro  hq H locs ls hP hD hS hl
        refine lv_iconst (v := 0) hx hb dX6_pieceSize_37 (by decide) ?_
        exact hq _ _ _ hP hD hS (lv_sub hl [0, 1, 2] rfl))
      refine lv_if_ne (tgt := 37) hx hb dX6_pieceSize_20 (by decide) (fun hc => ?_) (fun hc => ?_)
      · have hq := hq.1 hc
        exact hq _ _ _ hP hD hS (lv_sub hl [0, 1, 3] rfl)
      · have hq := hq.2 hc
        refine lv_aload_n hx hb dX6_pieceSize_23 rfl (lv_at hl 0 rfl) ?_
        refine va_get (D := (dC, dI)) (ci := 5) (v := .ref aPcs) (C := RX6) (T := TX6) (N := 16) hx hb hts iwX6_pieceSize_X6 hown hK hP 0 rfl rfl 11 (by decide) (hts _ kwX6_pieceSize_29) (fun _ h9 => h9) rfl dX6_pieceSize_24 ?_
        refine lv_iload_n hx hb dX6_pieceSize_27 rfl (lv_at hl 3 rfl) ?_
        have hin := hq.1
        have hq := hq.2
        refine va_iald hx hb hK hP 2 0 rfl rfl hin dX6_pieceSize_28 ?_
        refine lv_iload_n hx hb dX6_pieceSize_29 rfl (lv_at hl 1 rfl) ?_
        refine lv_icmp_ne (tgt := 37) hx hb dX6_pieceSize_30 (by decide) (fun hc => ?_) (fun hc => ?_)
        · have hq := hq.1 hc
          exact hq _ _ _ hP hD hS (lv_sub hl [0, 1, 3] rfl)
        · have hq := hq.2 hc
          refine lv_iconst (v := 1) hx hb dX6_pieceSize_33 (by decide) ?_
          refine lv_goto (tgt := 38) hx hb dX6_pieceSize_34 (by decide) ?_
          exact hq _ _ _ hP hD hS (lv_sub hl [0, 1, 3] rfl))
  exact hq _ _ _ hP hD hS (lv_sub hl [2, 3, 1, 0] rfl)
set_option maxHeartbeats 4000000 in
set_option maxRecDepth 100000 in
theorem c_X6_pieceMany (l : Launch) (dC : Nat → ClassId) (dI : Nat → Nat → Nat) (cI cC cS : ClassId) (aM : Nat) (aZ : Nat) (aPast : Nat) (aKz : Nat) (aBuf : Nat) (aStk : Nat) (aLaid : Nat) (aPcs : Nat) (aTold : Nat) (sz : Nat) (pastMany : Int32) (isKept : Int32) (typed : Int32) (wid : Int32) (hei : Int32) (toldMany : Int32) (spot : Int32) (wrong : Int32) (zz : Nat → Int32) (pcs : Nat → Int32) {post : Int32 → (Nat → Int32) → Prop} (hq : wp_X6_pieceMany zz pcs post) : Met l yX6_pieceMany wsX6_pieceMany ({ frames := 2, cells := 0, slots := 0, locals := 46 } : Room) (gn_Pre (dC, dI) cI cC cS [.ref aM] sz [(aM, .inr (5, [.ref aZ, .ref aPast, .int pastMany, .ref aKz, .int isKept, .ref aBuf, .int typed, .ref aStk, .ref aLaid, .int wid, .int hei, .ref aPcs, .ref aTold, .int toldMany, .int spot, .int wrong])), (aZ, .inl (cI, 207, .inl zz)), (aPcs, .inl (cI, 64, .inl pcs))]) (va_Qi (fun (r : Int32) (u : (Nat → Int32)) => post r u) (fun (u : (Nat → Int32)) t => va_P (dC, dI) vwCl [(aM, .inr (5, [.ref aZ, .ref aPast, .int pastMany, .ref aKz, .int isKept, .ref aBuf, .int typed, .ref aStk, .ref aLaid, .int wid, .int hei, .ref aPcs, .ref aTold, .int toldMany, .int spot, .int wrong])), (aZ, .inl (cI, 207, .inl zz)), (aPcs, .inl (cI, 64, .inl u))] t.heap ∧ va_K (dC, dI) vwCl (gn_tys cI cC cS) t ∧ va_D (va_A [(aM, .inr (5, [.ref aZ, .ref aPast, .int pastMany, .ref aKz, .int isKept, .ref aBuf, .int typed, .ref aStk, .ref aLaid, .int wid, .int hei, .ref aPcs, .ref aTold, .int toldMany, .int spot, .int wrong])), (aZ, .inl (cI, 207, .inl zz)), (aPcs, .inl (cI, 64, .inl pcs))] sz) [(aM, .inr (5, [.ref aZ, .ref aPast, .int pastMany, .ref aKz, .int isKept, .ref aBuf, .int typed, .ref aStk, .ref aLaid, .int wid, .int hei, .ref aPcs, .ref aTold, .int toldMany, .int spot, .int wrong])), (aZ, .inl (cI, 207, .inl zz)), (aPcs, .inl (cI, 64, .inl u))]) (va_A [(aM, .inr (5, [.ref aZ, .ref aPast, .int pastMany, .ref aKz, .int isKept, .ref aBuf, .int typed, .ref aStk, .ref aLaid, .int wid, .int hei, .ref aPcs, .ref aTold, .int toldMany, .int spot, .int wrong])), (aZ, .inl (cI, 207, .inl zz)), (aPcs, .inl (cI, 64, .inl pcs))] sz)) 0 0 (va_A [(aM, .inr (5, [.ref aZ, .ref aPast, .int pastMany, .ref aKz, .int isKept, .ref aBuf, .int typed, .ref aStk, .ref aLaid, .int wid, .int hei, .ref aPcs, .ref aTold, .int toldMany, .int spot, .int wrong])), (aZ, .inl (cI, 207, .inl zz)), (aPcs, .inl (cI, 64, .inl pcs))] sz) := by
  unfold wp_X6_pieceMany at hq
  refine Met.ofW (cc := cX6_pieceMany) (maxL := 3) (ret := (some .int)) (by decide) rfl ?_
  intro p e s m args below meth c s₁ B hml hv
  obtain ⟨rfl, hsz, hP, hK, hN, hD0⟩ := hv
  have hx := B.exec
  have hb := B.bytes
  have hr := B.returns
  have hts := atoms_spec (ws := wsX6_pieceMany) B.pre
  have hown : s.vm.findClass RX6 = some m.cls := findClass_of_methodNamed B.named
  have hlocks := B.notSynchronized
  subst hsz
  have hD := hD0.self (sz := s.heap.size)
  generalize hAe : va_A [(aM, .inr (5, [.ref aZ, .ref aPast, .int pastMany, .ref aKz, .int isKept, .ref aBuf, .int typed, .ref aStk, .ref aLaid, .int wid, .int hei, .ref aPcs, .ref aTold, .int toldMany, .int spot, .int wrong])), (aZ, .inl (cI, 207, .inl zz)), (aPcs, .inl (cI, 64, .inl pcs))] s.heap.size = A at hD ⊢
  have hA : ∀ q : Nat, s.heap.size ≤ q → A q := fun q h => by rw [← hAe]; exact Or.inr h
  have hS : va_S A s.heap s.heap [] := va_S.rf
  have hl := lv_entry ([.ref aM] : List Value) (n := 3) (Nat.le_of_ble_eq_true rfl)
  rw [lg_entry_eq]
  generalize (lg_sl ([.ref aM] : List Value) ++ List.replicate (3 - (lg_sl ([.ref aM] : List Value)).length) Slot.unset).toArray = ls at hl ⊢
  have hl : lv_has ls 3 [(0, .ref aM)] := hl
  refine gn_Q (hret := fun Q => ∀ (pc : Nat) (ls : Array Slot) (H : Heap) (locs : List Loc) (r : Int32) (m_pcs : Nat → Int32), decode cX6_pieceMany pc = .ok (.ireturn, 1) → va_P (dC, dI) vwCl [(aM, .inr (5, [.ref aZ, .ref aPast, .int pastMany, .ref aKz, .int isKept, .ref aBuf, .int typed, .ref aStk, .ref aLaid, .int wid, .int hei, .ref aPcs, .ref aTold, .int toldMany, .int spot, .int wrong])), (aZ, .inl (cI, 207, .inl zz)), (aPcs, .inl (cI, 64, .inl m_pcs))] H → va_D A [(aM, .inr (5, [.ref aZ, .ref aPast, .int pastMany, .ref aKz, .int isKept, .ref aBuf, .int typed, .ref aStk, .ref aLaid, .int wid, .int hei, .ref aPcs, .ref aTold, .int toldMany, .int spot, .int wrong])), (aZ, .inl (cI, 207, .inl zz)), (aPcs, .inl (cI, 64, .inl m_pcs))] → va_S A s.heap H locs → post r m_pcs → W p l e ({ frames := 2, cells := 0, slots := 0, locals := 46 } : Room) s m ([.ref aM] : List Value).toArray below meth c H locs 0 0 Q (F0 m pc ls [.int r])) (fun Q hret => ?_) ?_
  rotate_left
  · intro pc ls H locs r m_pcs hdg hP hD hS hpost
    exact W.iret (v := r) hx hb hr (fun t ht hW => ⟨⟨r, m_pcs, rfl, hpost, by rw [ht]; exact hP, va_K.moved hW.alike hK, hD⟩, hS.F ht⟩) hS.2.2 hdg
  refine lv_aload_n hx hb dX6_pieceMany_0 rfl (lv_at hl 0 rfl) ?_
  have hPc := hP.sub (ws' := [(aM, .inr (5, [.ref aZ, .ref aPast, .int pastMany, .ref aKz, .int isKept, .ref aBuf, .int typed, .ref aStk, .ref aLaid, .int wid, .int hei, .ref aPcs, .ref aTold, .int toldMany, .int spot, .int wrong])), (aZ, .inl (cI, 207, .inl zz)), (aPcs, .inl (cI, 64, .inl pcs))]) [0, 1, 2] rfl
  have hDc := hD.sub (ws' := [(aM, .inr (5, [.ref aZ, .ref aPast, .int pastMany, .ref aKz, .int isKept, .ref aBuf, .int typed, .ref aStk, .ref aLaid, .int wid, .int hei, .ref aPcs, .ref aTold, .int toldMany, .int spot, .int wrong])), (aZ, .inl (cI, 207, .inl zz)), (aPcs, .inl (cI, 64, .inl pcs))]) [0, 1, 2] (by decide) rfl
  have hFc := va_free (wc := [(aM, .inr (5, [.ref aZ, .ref aPast, .int pastMany, .ref aKz, .int isKept, .ref aBuf, .int typed, .ref aStk, .ref aLaid, .int wid, .int hei, .ref aPcs, .ref aTold, .int toldMany, .int spot, .int wrong])), (aZ, .inl (cI, 207, .inl zz)), (aPcs, .inl (cI, 64, .inl pcs))]) hD hS hA [0, 1, 2] rfl
  refine va_callv (va_runV (As := []) (rest := []) ⟨hx, hb, hml, hown, hts⟩ (c_X6_layPieces l dC dI cI cC cS aM aZ aPast aKz aBuf aStk aLaid aPcs aTold _ pastMany isKept typed wid hei toldMany spot wrong zz pcs hq) (cwV 0 hts gX6_pieceMany_X6_layPieces rfl rfl rfl (by decide +kernel) ⟨Nat.le_of_ble_eq_true rfl, Nat.le_of_ble_eq_true rfl⟩) (gn_preV hPc hK hN hDc (ci := 5) (q0 := 0) rfl rfl) rfl rfl hl.1 rfl (lv_room (Nat.le_of_ble_eq_true rfl)) dX6_pieceMany_1 ⟨Nat.zero_le _, Nat.zero_le _⟩) hS (fun q _ h => hFc q h) hFc (fun u t H1 locs ht hvm hq hB hz1 hk1 hS => ?_)
  obtain ⟨pcs__1, rfl⟩ : ∃ z, z = u := ⟨_, rfl⟩
  obtain ⟨hP1, hK1, hD1⟩ := hB
  rw [ht] at hP1
  try dsimp only at hq
  obtain ⟨hP, hD⟩ := va_join (wr := []) (w1 := [(aM, .inr (5, [.ref aZ, .ref aPast, .int pastMany, .ref aKz, .int isKept, .ref aBuf, .int typed, .ref aStk, .ref aLaid, .int wid, .int hei, .ref aPcs, .ref aTold, .int toldMany, .int spot, .int wrong])), (aZ, .inl (cI, 207, .inl zz)), (aPcs, .inl (cI, 64, .inl pcs__1))]) hP hD [0, 1, 2] [] rfl rfl (by decide) (by decide) hk1 hFc hP1 hD1
  have hP := hP.sub (ws' := [(aM, .inr (5, [.ref aZ, .ref aPast, .int pastMany, .ref aKz, .int isKept, .ref aBuf, .int typed, .ref aStk, .ref aLaid, .int wid, .int hei, .ref aPcs, .ref aTold, .int toldMany, .int spot, .int wrong])), (aZ, .inl (cI, 207, .inl zz)), (aPcs, .inl (cI, 64, .inl pcs__1))]) [0, 1, 2] rfl
  have hD := hD.sub (ws' := [(aM, .inr (5, [.ref aZ, .ref aPast, .int pastMany, .ref aKz, .int isKept, .ref aBuf, .int typed, .ref aStk, .ref aLaid, .int wid, .int hei, .ref aPcs, .ref aTold, .int toldMany, .int spot, .int wrong])), (aZ, .inl (cI, 207, .inl zz)), (aPcs, .inl (cI, 64, .inl pcs__1))]) [0, 1, 2] (by decide) rfl
  generalize H1 = H at hP hS ⊢
  refine lv_iconst (v := 0) hx hb dX6_pieceMany_4 (by decide) ?_
  refine lv_istore_n (lv' := [(1, .int (0 : Int32)), (0, .ref aM)]) hx hb dX6_pieceMany_5 rfl hl (by decide) rfl (fun ls hl => ?_)
  refine lv_iconst (v := 0) hx hb dX6_pieceMany_6 (by decide) ?_
  refine lv_istore_n (lv' := [(2, .int (0 : Int32)), (1, .int (0 : Int32)), (0, .ref aM)]) hx hb dX6_pieceMany_7 rfl hl (by decide) rfl (fun ls hl => ?_)
  have hq := hq (fun (v1_2 : Int32) (v2_3 : Int32) => ∀ (H : Heap) (locs : List Loc) (ls : Array Slot), va_P (dC, dI) vwCl [(aM, .inr (5, [.ref aZ, .ref aPast, .int pastMany, .ref aKz, .int isKept, .ref aBuf, .int typed, .ref aStk, .ref aLaid, .int wid, .int hei, .ref aPcs, .ref aTold, .int toldMany, .int spot, .int wrong])), (aZ, .inl (cI, 207, .inl zz)), (aPcs, .inl (cI, 64, .inl pcs__1))] H → va_D A [(aM, .inr (5, [.ref aZ, .ref aPast, .int pastMany, .ref aKz, .int isKept, .ref aBuf, .int typed, .ref aStk, .ref aLaid, .int wid, .int hei, .ref aPcs, .ref aTold, .int toldMany, .int spot, .int wrong])), (aZ, .inl (cI, 207, .inl zz)), (aPcs, .inl (cI, 64, .inl pcs__1))] → va_S A s.heap H locs → lv_has ls 3 [(0, .ref aM), (1, .int v1_2), (2, .int v2_3)] → W p l e ({ frames := 2, cells := 0, slots := 0, locals := 46 } : Room) s m ([.ref aM] : List Value).toArray below meth c H locs 0 0 Q (F0 m 8 ls [])) (by
    intro v1_2 v2_3 hq H locs ls hP hD hS hl
    refine lv_iload_n hx hb dX6_pieceMany_8 rfl (lv_at hl 2 rfl) ?_
    refine lv_bipush (v := 64) hx hb dX6_pieceMany_9 (by decide) ?_
    refine lv_icmp_ge (tgt := 36) hx hb dX6_pieceMany_11 (by decide) (fun hc => ?_) (fun hc => ?_)
    · have hq := hq.1 hc
      refine lv_iload_n hx hb dX6_pieceMany_36 rfl (lv_at hl 1 rfl) ?_
      exact hret _ _ _ _ _ _ dX6_pieceMany_37 hP hD hS hq
    · have hq := hq.2 hc
      refine lv_iload_n hx hb dX6_pieceMany_14 rfl (lv_at hl 1 rfl) ?_
      refine lv_aload_n hx hb dX6_pieceMany_15 rfl (lv_at hl 0 rfl) ?_
      refine lv_iload_n hx hb dX6_pieceMany_16 rfl (lv_at hl 2 rfl) ?_
      have hPc := hP.sub (ws' := [(aM, .inr (5, [.ref aZ, .ref aPast, .int pastMany, .ref aKz, .int isKept, .ref aBuf, .int typed, .ref aStk, .ref aLaid, .int wid, .int hei, .ref aPcs, .ref aTold, .int toldMany, .int spot, .int wrong])), (aZ, .inl (cI, 207, .inl zz)), (aPcs, .inl (cI, 64, .inl pcs__1))]) [0, 1, 2] rfl
      have hDc := hD.sub (ws' := [(aM, .inr (5, [.ref aZ, .ref aPast, .int pastMany, .ref aKz, .int isKept, .ref aBuf, .int typed, .ref aStk, .ref aLaid, .int wid, .int hei, .ref aPcs, .ref aTold, .int toldMany, .int spot, .int wrong])), (aZ, .inl (cI, 207, .inl zz)), (aPcs, .inl (cI, 64, .inl pcs__1))]) [0, 1, 2] (by decide) rfl
      have hFc := va_free (wc := [(aM, .inr (5, [.ref aZ, .ref aPast, .int pastMany, .ref aKz, .int isKept, .ref aBuf, .int typed, .ref aStk, .ref aLaid, .int wid, .int hei, .ref aPcs, .ref aTold, .int toldMany, .int spot, .int wrong])), (aZ, .inl (cI, 207, .inl zz)), (aPcs, .inl (cI, 64, .inl pcs__1))]) hD hS hA [0, 1, 2] rfl
      refine va_calli (va_runV (As := [.int v2_3]) (rest := [.int v1_2]) ⟨hx, hb, hml, hown, hts⟩ (c_X6_pieceSize l dC dI cI cC cS aM aZ aPast aKz aBuf aStk aLaid aPcs aTold _ pastMany isKept typed wid hei toldMany spot wrong zz pcs__1 v2_3 hq) (cwV 1 hts gX6_pieceMany_X6_pieceSize rfl rfl rfl (by decide +kernel) ⟨Nat.le_of_ble_eq_true rfl, Nat.le_of_ble_eq_true rfl⟩) (gn_preV hPc hK hN hDc (ci := 5) (q0 := 0) rfl rfl) rfl rfl hl.1 rfl (lv_room (Nat.le_of_ble_eq_true rfl)) dX6_pieceMany_17 ⟨Nat.zero_le _, Nat.zero_le _⟩) hS (fun q _ h => hFc q h) hFc (fun r_4 u t H1 locs ht hvm hq hB hz1 hk1 hS => ?_)
      obtain ⟨hP1, hK1, hD1⟩ := hB
      rw [ht] at hP1
      try dsimp only at hq
      obtain ⟨hP, hD⟩ := va_join (wr := []) (w1 := [(aM, .inr (5, [.ref aZ, .ref aPast, .int pastMany, .ref aKz, .int isKept, .ref aBuf, .int typed, .ref aStk, .ref aLaid, .int wid, .int hei, .ref aPcs, .ref aTold, .int toldMany, .int spot, .int wrong])), (aZ, .inl (cI, 207, .inl zz)), (aPcs, .inl (cI, 64, .inl pcs__1))]) hP hD [0, 1, 2] [] rfl rfl (by decide) (by decide) hk1 hFc hP1 hD1
      have hP := hP.sub (ws' := [(aM, .inr (5, [.ref aZ, .ref aPast, .int pastMany, .ref aKz, .int isKept, .ref aBuf, .int typed, .ref aStk, .ref aLaid, .int wid, .int hei, .ref aPcs, .ref aTold, .int toldMany, .int spot, .int wrong])), (aZ, .inl (cI, 207, .inl zz)), (aPcs, .inl (cI, 64, .inl pcs__1))]) [0, 1, 2] rfl
      have hD := hD.sub (ws' := [(aM, .inr (5, [.ref aZ, .ref aPast, .int pastMany, .ref aKz, .int isKept, .ref aBuf, .int typed, .ref aStk, .ref aLaid, .int wid, .int hei, .ref aPcs, .ref aTold, .int toldMany, .int spot, .int wrong])), (aZ, .inl (cI, 207, .inl zz)), (aPcs, .inl (cI, 64, .inl pcs__1))]) [0, 1, 2] (by decide) rfl
      generalize H1 = H at hP hS ⊢
      have hq := hq (fun (t_5 : Int32) => ∀ (H : Heap) (locs : List Loc) (ls : Array Slot), va_P (dC, dI) vwCl [(aM, .inr (5, [.ref aZ, .ref aPast, .int pastMany, .ref aKz, .int isKept, .ref aBuf, .int typed, .ref aStk, .ref aLaid, .int wid, .int hei, .ref aPcs, .ref aTold, .int toldMany, .int spot, .int wrong])), (aZ, .inl (cI, 207, .inl zz)), (aPcs, .inl (cI, 64, .inl pcs__1))] H → va_D A [(aM, .inr (5, [.ref aZ, .ref aPast, .int pastMany, .ref aKz, .int isKept, .ref aBuf, .int typed, .ref aStk, .ref aLaid, .int wid, .int hei, .ref aPcs, .ref aTold, .int toldMany, .int spot, .int wrong])), (aZ, .inl (cI, 207, .inl zz)), (aPcs, .inl (cI, 64, .inl pcs__1))] → va_S A s.heap H locs → lv_has ls 3 [(0, .ref aM), (2, .int v2_3)] → W p l e ({ frames := 2, cells := 0, slots := 0, locals := 46 } : Room) s m ([.ref aM] : List Value).toArray below meth c H locs 0 0 Q (F0 m 28 ls [.int t_5, .int v1_2])) (by
        intro t_5 hq H locs ls hP hD hS hl
        refine lv_iadd hx hb dX6_pieceMany_28 ?_
        refine lv_topi (fun w1_6 ew1_6 => ?_)
        have hq := hq w1_6 ew1_6
        refine lv_istore_n (lv' := [(1, .int w1_6), (0, .ref aM), (2, .int v2_3)]) hx hb dX6_pieceMany_29 rfl hl (by decide) rfl (fun ls hl => ?_)
        refine lv_iinc (v := (v2_3 + (1 : Int32))) (lv' := [(2, .int (v2_3 + (1 : Int32))), (1, .int w1_6), (0, .ref aM)]) hx hb dX6_pieceMany_30 hl (k := 2) rfl rfl (by decide) rfl (fun ls hl => ?_)
        refine lv_goto (tgt := 8) hx hb dX6_pieceMany_33 (by decide) ?_
        exact hq _ _ _ hP hD hS (lv_sub hl [2, 1, 0] rfl))
      refine lv_if_le (tgt := 27) hx hb dX6_pieceMany_20 (by decide) (fun hc => ?_) (fun hc => ?_)
      · have hq := hq.1 hc
        refine lv_iconst (v := 0) hx hb dX6_pieceMany_27 (by decide) ?_
        exact hq _ _ _ hP hD hS (lv_sub hl [0, 2] rfl)
      · have hq := hq.2 hc
        refine lv_iconst (v := 1) hx hb dX6_pieceMany_23 (by decide) ?_
        refine lv_goto (tgt := 28) hx hb dX6_pieceMany_24 (by decide) ?_
        exact hq _ _ _ hP hD hS (lv_sub hl [0, 2] rfl))
  exact hq _ _ _ hP hD hS (lv_sub hl [2, 1, 0] rfl)
set_option maxHeartbeats 4000000 in
set_option maxRecDepth 100000 in
theorem c_X6_largest (l : Launch) (dC : Nat → ClassId) (dI : Nat → Nat → Nat) (cI cC cS : ClassId) (aM : Nat) (aZ : Nat) (aPast : Nat) (aKz : Nat) (aBuf : Nat) (aStk : Nat) (aLaid : Nat) (aPcs : Nat) (aTold : Nat) (sz : Nat) (pastMany : Int32) (isKept : Int32) (typed : Int32) (wid : Int32) (hei : Int32) (toldMany : Int32) (spot : Int32) (wrong : Int32) (zz : Nat → Int32) (pcs : Nat → Int32) {post : Int32 → (Nat → Int32) → Prop} (hq : wp_X6_largest zz pcs post) : Met l yX6_largest wsX6_largest ({ frames := 2, cells := 0, slots := 0, locals := 46 } : Room) (gn_Pre (dC, dI) cI cC cS [.ref aM] sz [(aM, .inr (5, [.ref aZ, .ref aPast, .int pastMany, .ref aKz, .int isKept, .ref aBuf, .int typed, .ref aStk, .ref aLaid, .int wid, .int hei, .ref aPcs, .ref aTold, .int toldMany, .int spot, .int wrong])), (aZ, .inl (cI, 207, .inl zz)), (aPcs, .inl (cI, 64, .inl pcs))]) (va_Qi (fun (r : Int32) (u : (Nat → Int32)) => post r u) (fun (u : (Nat → Int32)) t => va_P (dC, dI) vwCl [(aM, .inr (5, [.ref aZ, .ref aPast, .int pastMany, .ref aKz, .int isKept, .ref aBuf, .int typed, .ref aStk, .ref aLaid, .int wid, .int hei, .ref aPcs, .ref aTold, .int toldMany, .int spot, .int wrong])), (aZ, .inl (cI, 207, .inl zz)), (aPcs, .inl (cI, 64, .inl u))] t.heap ∧ va_K (dC, dI) vwCl (gn_tys cI cC cS) t ∧ va_D (va_A [(aM, .inr (5, [.ref aZ, .ref aPast, .int pastMany, .ref aKz, .int isKept, .ref aBuf, .int typed, .ref aStk, .ref aLaid, .int wid, .int hei, .ref aPcs, .ref aTold, .int toldMany, .int spot, .int wrong])), (aZ, .inl (cI, 207, .inl zz)), (aPcs, .inl (cI, 64, .inl pcs))] sz) [(aM, .inr (5, [.ref aZ, .ref aPast, .int pastMany, .ref aKz, .int isKept, .ref aBuf, .int typed, .ref aStk, .ref aLaid, .int wid, .int hei, .ref aPcs, .ref aTold, .int toldMany, .int spot, .int wrong])), (aZ, .inl (cI, 207, .inl zz)), (aPcs, .inl (cI, 64, .inl u))]) (va_A [(aM, .inr (5, [.ref aZ, .ref aPast, .int pastMany, .ref aKz, .int isKept, .ref aBuf, .int typed, .ref aStk, .ref aLaid, .int wid, .int hei, .ref aPcs, .ref aTold, .int toldMany, .int spot, .int wrong])), (aZ, .inl (cI, 207, .inl zz)), (aPcs, .inl (cI, 64, .inl pcs))] sz)) 0 0 (va_A [(aM, .inr (5, [.ref aZ, .ref aPast, .int pastMany, .ref aKz, .int isKept, .ref aBuf, .int typed, .ref aStk, .ref aLaid, .int wid, .int hei, .ref aPcs, .ref aTold, .int toldMany, .int spot, .int wrong])), (aZ, .inl (cI, 207, .inl zz)), (aPcs, .inl (cI, 64, .inl pcs))] sz) := by
  unfold wp_X6_largest at hq
  refine Met.ofW (cc := cX6_largest) (maxL := 4) (ret := (some .int)) (by decide) rfl ?_
  intro p e s m args below meth c s₁ B hml hv
  obtain ⟨rfl, hsz, hP, hK, hN, hD0⟩ := hv
  have hx := B.exec
  have hb := B.bytes
  have hr := B.returns
  have hts := atoms_spec (ws := wsX6_largest) B.pre
  have hown : s.vm.findClass RX6 = some m.cls := findClass_of_methodNamed B.named
  have hlocks := B.notSynchronized
  subst hsz
  have hD := hD0.self (sz := s.heap.size)
  generalize hAe : va_A [(aM, .inr (5, [.ref aZ, .ref aPast, .int pastMany, .ref aKz, .int isKept, .ref aBuf, .int typed, .ref aStk, .ref aLaid, .int wid, .int hei, .ref aPcs, .ref aTold, .int toldMany, .int spot, .int wrong])), (aZ, .inl (cI, 207, .inl zz)), (aPcs, .inl (cI, 64, .inl pcs))] s.heap.size = A at hD ⊢
  have hA : ∀ q : Nat, s.heap.size ≤ q → A q := fun q h => by rw [← hAe]; exact Or.inr h
  have hS : va_S A s.heap s.heap [] := va_S.rf
  have hl := lv_entry ([.ref aM] : List Value) (n := 4) (Nat.le_of_ble_eq_true rfl)
  rw [lg_entry_eq]
  generalize (lg_sl ([.ref aM] : List Value) ++ List.replicate (4 - (lg_sl ([.ref aM] : List Value)).length) Slot.unset).toArray = ls at hl ⊢
  have hl : lv_has ls 4 [(0, .ref aM)] := hl
  refine gn_Q (hret := fun Q => ∀ (pc : Nat) (ls : Array Slot) (H : Heap) (locs : List Loc) (r : Int32) (m_pcs : Nat → Int32), decode cX6_largest pc = .ok (.ireturn, 1) → va_P (dC, dI) vwCl [(aM, .inr (5, [.ref aZ, .ref aPast, .int pastMany, .ref aKz, .int isKept, .ref aBuf, .int typed, .ref aStk, .ref aLaid, .int wid, .int hei, .ref aPcs, .ref aTold, .int toldMany, .int spot, .int wrong])), (aZ, .inl (cI, 207, .inl zz)), (aPcs, .inl (cI, 64, .inl m_pcs))] H → va_D A [(aM, .inr (5, [.ref aZ, .ref aPast, .int pastMany, .ref aKz, .int isKept, .ref aBuf, .int typed, .ref aStk, .ref aLaid, .int wid, .int hei, .ref aPcs, .ref aTold, .int toldMany, .int spot, .int wrong])), (aZ, .inl (cI, 207, .inl zz)), (aPcs, .inl (cI, 64, .inl m_pcs))] → va_S A s.heap H locs → post r m_pcs → W p l e ({ frames := 2, cells := 0, slots := 0, locals := 46 } : Room) s m ([.ref aM] : List Value).toArray below meth c H locs 0 0 Q (F0 m pc ls [.int r])) (fun Q hret => ?_) ?_
  rotate_left
  · intro pc ls H locs r m_pcs hdg hP hD hS hpost
    exact W.iret (v := r) hx hb hr (fun t ht hW => ⟨⟨r, m_pcs, rfl, hpost, by rw [ht]; exact hP, va_K.moved hW.alike hK, hD⟩, hS.F ht⟩) hS.2.2 hdg
  refine lv_aload_n hx hb dX6_largest_0 rfl (lv_at hl 0 rfl) ?_
  have hPc := hP.sub (ws' := [(aM, .inr (5, [.ref aZ, .ref aPast, .int pastMany, .ref aKz, .int isKept, .ref aBuf, .int typed, .ref aStk, .ref aLaid, .int wid, .int hei, .ref aPcs, .ref aTold, .int toldMany, .int spot, .int wrong])), (aZ, .inl (cI, 207, .inl zz)), (aPcs, .inl (cI, 64, .inl pcs))]) [0, 1, 2] rfl
  have hDc := hD.sub (ws' := [(aM, .inr (5, [.ref aZ, .ref aPast, .int pastMany, .ref aKz, .int isKept, .ref aBuf, .int typed, .ref aStk, .ref aLaid, .int wid, .int hei, .ref aPcs, .ref aTold, .int toldMany, .int spot, .int wrong])), (aZ, .inl (cI, 207, .inl zz)), (aPcs, .inl (cI, 64, .inl pcs))]) [0, 1, 2] (by decide) rfl
  have hFc := va_free (wc := [(aM, .inr (5, [.ref aZ, .ref aPast, .int pastMany, .ref aKz, .int isKept, .ref aBuf, .int typed, .ref aStk, .ref aLaid, .int wid, .int hei, .ref aPcs, .ref aTold, .int toldMany, .int spot, .int wrong])), (aZ, .inl (cI, 207, .inl zz)), (aPcs, .inl (cI, 64, .inl pcs))]) hD hS hA [0, 1, 2] rfl
  refine va_callv (va_runV (As := []) (rest := []) ⟨hx, hb, hml, hown, hts⟩ (c_X6_layPieces l dC dI cI cC cS aM aZ aPast aKz aBuf aStk aLaid aPcs aTold _ pastMany isKept typed wid hei toldMany spot wrong zz pcs hq) (cwV 0 hts gX6_largest_X6_layPieces rfl rfl rfl (by decide +kernel) ⟨Nat.le_of_ble_eq_true rfl, Nat.le_of_ble_eq_true rfl⟩) (gn_preV hPc hK hN hDc (ci := 5) (q0 := 0) rfl rfl) rfl rfl hl.1 rfl (lv_room (Nat.le_of_ble_eq_true rfl)) dX6_largest_1 ⟨Nat.zero_le _, Nat.zero_le _⟩) hS (fun q _ h => hFc q h) hFc (fun u t H1 locs ht hvm hq hB hz1 hk1 hS => ?_)
  obtain ⟨pcs__1, rfl⟩ : ∃ z, z = u := ⟨_, rfl⟩
  obtain ⟨hP1, hK1, hD1⟩ := hB
  rw [ht] at hP1
  try dsimp only at hq
  obtain ⟨hP, hD⟩ := va_join (wr := []) (w1 := [(aM, .inr (5, [.ref aZ, .ref aPast, .int pastMany, .ref aKz, .int isKept, .ref aBuf, .int typed, .ref aStk, .ref aLaid, .int wid, .int hei, .ref aPcs, .ref aTold, .int toldMany, .int spot, .int wrong])), (aZ, .inl (cI, 207, .inl zz)), (aPcs, .inl (cI, 64, .inl pcs__1))]) hP hD [0, 1, 2] [] rfl rfl (by decide) (by decide) hk1 hFc hP1 hD1
  have hP := hP.sub (ws' := [(aM, .inr (5, [.ref aZ, .ref aPast, .int pastMany, .ref aKz, .int isKept, .ref aBuf, .int typed, .ref aStk, .ref aLaid, .int wid, .int hei, .ref aPcs, .ref aTold, .int toldMany, .int spot, .int wrong])), (aZ, .inl (cI, 207, .inl zz)), (aPcs, .inl (cI, 64, .inl pcs__1))]) [0, 1, 2] rfl
  have hD := hD.sub (ws' := [(aM, .inr (5, [.ref aZ, .ref aPast, .int pastMany, .ref aKz, .int isKept, .ref aBuf, .int typed, .ref aStk, .ref aLaid, .int wid, .int hei, .ref aPcs, .ref aTold, .int toldMany, .int spot, .int wrong])), (aZ, .inl (cI, 207, .inl zz)), (aPcs, .inl (cI, 64, .inl pcs__1))]) [0, 1, 2] (by decide) rfl
  generalize H1 = H at hP hS ⊢
  refine lv_iconst (v := 0) hx hb dX6_largest_4 (by decide) ?_
  refine lv_istore_n (lv' := [(1, .int (0 : Int32)), (0, .ref aM)]) hx hb dX6_largest_5 rfl hl (by decide) rfl (fun ls hl => ?_)
  refine lv_iconst (v := 0) hx hb dX6_largest_6 (by decide) ?_
  refine lv_istore_n (lv' := [(2, .int (0 : Int32)), (1, .int (0 : Int32)), (0, .ref aM)]) hx hb dX6_largest_7 rfl hl (by decide) rfl (fun ls hl => ?_)
  have hq := hq (fun (v1_2 : Int32) (v2_3 : Int32) => ∀ (H : Heap) (locs : List Loc) (ls : Array Slot), va_P (dC, dI) vwCl [(aM, .inr (5, [.ref aZ, .ref aPast, .int pastMany, .ref aKz, .int isKept, .ref aBuf, .int typed, .ref aStk, .ref aLaid, .int wid, .int hei, .ref aPcs, .ref aTold, .int toldMany, .int spot, .int wrong])), (aZ, .inl (cI, 207, .inl zz)), (aPcs, .inl (cI, 64, .inl pcs__1))] H → va_D A [(aM, .inr (5, [.ref aZ, .ref aPast, .int pastMany, .ref aKz, .int isKept, .ref aBuf, .int typed, .ref aStk, .ref aLaid, .int wid, .int hei, .ref aPcs, .ref aTold, .int toldMany, .int spot, .int wrong])), (aZ, .inl (cI, 207, .inl zz)), (aPcs, .inl (cI, 64, .inl pcs__1))] → va_S A s.heap H locs → lv_has ls 4 [(0, .ref aM), (1, .int v1_2), (2, .int v2_3)] → W p l e ({ frames := 2, cells := 0, slots := 0, locals := 46 } : Room) s m ([.ref aM] : List Value).toArray below meth c H locs 0 0 Q (F0 m 8 ls [])) (by
    intro v1_2 v2_3 hq H locs ls hP hD hS hl
    refine lv_iload_n hx hb dX6_largest_8 rfl (lv_at hl 2 rfl) ?_
    refine lv_bipush (v := 64) hx hb dX6_largest_9 (by decide) ?_
    refine lv_icmp_ge (tgt := 37) hx hb dX6_largest_11 (by decide) (fun hc => ?_) (fun hc => ?_)
    · have hq := hq.1 hc
      refine lv_iload_n hx hb dX6_largest_37 rfl (lv_at hl 1 rfl) ?_
      exact hret _ _ _ _ _ _ dX6_largest_38 hP hD hS hq
    · have hq := hq.2 hc
      refine lv_aload_n hx hb dX6_largest_14 rfl (lv_at hl 0 rfl) ?_
      refine lv_iload_n hx hb dX6_largest_15 rfl (lv_at hl 2 rfl) ?_
      have hPc := hP.sub (ws' := [(aM, .inr (5, [.ref aZ, .ref aPast, .int pastMany, .ref aKz, .int isKept, .ref aBuf, .int typed, .ref aStk, .ref aLaid, .int wid, .int hei, .ref aPcs, .ref aTold, .int toldMany, .int spot, .int wrong])), (aZ, .inl (cI, 207, .inl zz)), (aPcs, .inl (cI, 64, .inl pcs__1))]) [0, 1, 2] rfl
      have hDc := hD.sub (ws' := [(aM, .inr (5, [.ref aZ, .ref aPast, .int pastMany, .ref aKz, .int isKept, .ref aBuf, .int typed, .ref aStk, .ref aLaid, .int wid, .int hei, .ref aPcs, .ref aTold, .int toldMany, .int spot, .int wrong])), (aZ, .inl (cI, 207, .inl zz)), (aPcs, .inl (cI, 64, .inl pcs__1))]) [0, 1, 2] (by decide) rfl
      have hFc := va_free (wc := [(aM, .inr (5, [.ref aZ, .ref aPast, .int pastMany, .ref aKz, .int isKept, .ref aBuf, .int typed, .ref aStk, .ref aLaid, .int wid, .int hei, .ref aPcs, .ref aTold, .int toldMany, .int spot, .int wrong])), (aZ, .inl (cI, 207, .inl zz)), (aPcs, .inl (cI, 64, .inl pcs__1))]) hD hS hA [0, 1, 2] rfl
      refine va_calli (va_runV (As := [.int v2_3]) (rest := []) ⟨hx, hb, hml, hown, hts⟩ (c_X6_pieceSize l dC dI cI cC cS aM aZ aPast aKz aBuf aStk aLaid aPcs aTold _ pastMany isKept typed wid hei toldMany spot wrong zz pcs__1 v2_3 hq) (cwV 1 hts gX6_largest_X6_pieceSize rfl rfl rfl (by decide +kernel) ⟨Nat.le_of_ble_eq_true rfl, Nat.le_of_ble_eq_true rfl⟩) (gn_preV hPc hK hN hDc (ci := 5) (q0 := 0) rfl rfl) rfl rfl hl.1 rfl (lv_room (Nat.le_of_ble_eq_true rfl)) dX6_largest_16 ⟨Nat.zero_le _, Nat.zero_le _⟩) hS (fun q _ h => hFc q h) hFc (fun r_4 u t H1 locs ht hvm hq hB hz1 hk1 hS => ?_)
      obtain ⟨hP1, hK1, hD1⟩ := hB
      rw [ht] at hP1
      try dsimp only at hq
      obtain ⟨hP, hD⟩ := va_join (wr := []) (w1 := [(aM, .inr (5, [.ref aZ, .ref aPast, .int pastMany, .ref aKz, .int isKept, .ref aBuf, .int typed, .ref aStk, .ref aLaid, .int wid, .int hei, .ref aPcs, .ref aTold, .int toldMany, .int spot, .int wrong])), (aZ, .inl (cI, 207, .inl zz)), (aPcs, .inl (cI, 64, .inl pcs__1))]) hP hD [0, 1, 2] [] rfl rfl (by decide) (by decide) hk1 hFc hP1 hD1
      have hP := hP.sub (ws' := [(aM, .inr (5, [.ref aZ, .ref aPast, .int pastMany, .ref aKz, .int isKept, .ref aBuf, .int typed, .ref aStk, .ref aLaid, .int wid, .int hei, .ref aPcs, .ref aTold, .int toldMany, .int spot, .int wrong])), (aZ, .inl (cI, 207, .inl zz)), (aPcs, .inl (cI, 64, .inl pcs__1))]) [0, 1, 2] rfl
      have hD := hD.sub (ws' := [(aM, .inr (5, [.ref aZ, .ref aPast, .int pastMany, .ref aKz, .int isKept, .ref aBuf, .int typed, .ref aStk, .ref aLaid, .int wid, .int hei, .ref aPcs, .ref aTold, .int toldMany, .int spot, .int wrong])), (aZ, .inl (cI, 207, .inl zz)), (aPcs, .inl (cI, 64, .inl pcs__1))]) [0, 1, 2] (by decide) rfl
      generalize H1 = H at hP hS ⊢
      refine lv_istore_n (lv' := [(3, .int r_4), (0, .ref aM), (1, .int v1_2), (2, .int v2_3)]) hx hb dX6_largest_19 rfl hl (by decide) rfl (fun ls hl => ?_)
      refine lv_iload_n hx hb dX6_largest_20 rfl (lv_at hl 0 rfl) ?_
      refine lv_iload_n hx hb dX6_largest_21 rfl (lv_at hl 2 rfl) ?_
      have hq := hq (fun (t_5 : Int32) => ∀ (H : Heap) (locs : List Loc) (ls : Array Slot), va_P (dC, dI) vwCl [(aM, .inr (5, [.ref aZ, .ref aPast, .int pastMany, .ref aKz, .int isKept, .ref aBuf, .int typed, .ref aStk, .ref aLaid, .int wid, .int hei, .ref aPcs, .ref aTold, .int toldMany, .int spot, .int wrong])), (aZ, .inl (cI, 207, .inl zz)), (aPcs, .inl (cI, 64, .inl pcs__1))] H → va_D A [(aM, .inr (5, [.ref aZ, .ref aPast, .int pastMany, .ref aKz, .int isKept, .ref aBuf, .int typed, .ref aStk, .ref aLaid, .int wid, .int hei, .ref aPcs, .ref aTold, .int toldMany, .int spot, .int wrong])), (aZ, .inl (cI, 207, .inl zz)), (aPcs, .inl (cI, 64, .inl pcs__1))] → va_S A s.heap H locs → lv_has ls 4 [(0, .ref aM), (2, .int v2_3)] → W p l e ({ frames := 2, cells := 0, slots := 0, locals := 46 } : Room) s m ([.ref aM] : List Value).toArray below meth c H locs 0 0 Q (F0 m 30 ls [.int t_5])) (by
        intro t_5 hq H locs ls hP hD hS hl
        refine lv_istore_n (lv' := [(1, .int t_5), (0, .ref aM), (2, .int v2_3)]) hx hb dX6_largest_30 rfl hl (by decide) rfl (fun ls hl => ?_)
        refine lv_iinc (v := (v2_3 + (1 : Int32))) (lv' := [(2, .int (v2_3 + (1 : Int32))), (1, .int t_5), (0, .ref aM)]) hx hb dX6_largest_31 hl (k := 2) rfl rfl (by decide) rfl (fun ls hl => ?_)
        refine lv_goto (tgt := 8) hx hb dX6_largest_34 (by decide) ?_
        exact hq _ _ _ hP hD hS (lv_sub hl [2, 1, 0] rfl))
      refine lv_icmp_le (tgt := 29) hx hb dX6_largest_22 (by decide) (fun hc => ?_) (fun hc => ?_)
      · have hq := hq.1 hc
        refine lv_iload_n hx hb dX6_largest_29 rfl (lv_at hl 2 rfl) ?_
        exact hq _ _ _ hP hD hS (lv_sub hl [1, 3] rfl)
      · have hq := hq.2 hc
        refine lv_iload_n hx hb dX6_largest_25 rfl (lv_at hl 0 rfl) ?_
        refine lv_goto (tgt := 30) hx hb dX6_largest_26 (by decide) ?_
        exact hq _ _ _ hP hD hS (lv_sub hl [1, 3] rfl))
  exact hq _ _ _ hP hD hS (lv_sub hl [2, 1, 0] rfl)
set_option maxRecDepth 20000 in
theorem kwX6_count_7 : Cond.fieldLink RX6 7 "PunchedFoldsModel" "z" "[I" ∈ wsX6_count := by decide +kernel
set_option maxRecDepth 20000 in
theorem iwX6_count_X6 : ∀ w ∈ wsX60, w ∈ wsX6_count := by decide +kernel
set_option maxHeartbeats 4000000 in
set_option maxRecDepth 100000 in
theorem c_X6_count (l : Launch) (dC : Nat → ClassId) (dI : Nat → Nat → Nat) (cI cC cS : ClassId) (aM : Nat) (aZ : Nat) (aPast : Nat) (aKz : Nat) (aBuf : Nat) (aStk : Nat) (aLaid : Nat) (aPcs : Nat) (aTold : Nat) (sz : Nat) (pastMany : Int32) (isKept : Int32) (typed : Int32) (wid : Int32) (hei : Int32) (toldMany : Int32) (spot : Int32) (wrong : Int32) (zz : Nat → Int32) (pcs : Nat → Int32) (x1 : Int32) {post : Int32 → (Nat → Int32) → Prop} (hq : wp_X6_count zz pcs x1 post) : Met l yX6_count wsX6_count ({ frames := 3, cells := 0, slots := 0, locals := 69 } : Room) (gn_Pre (dC, dI) cI cC cS [.ref aM, .int x1] sz [(aM, .inr (5, [.ref aZ, .ref aPast, .int pastMany, .ref aKz, .int isKept, .ref aBuf, .int typed, .ref aStk, .ref aLaid, .int wid, .int hei, .ref aPcs, .ref aTold, .int toldMany, .int spot, .int wrong])), (aZ, .inl (cI, 207, .inl zz)), (aPcs, .inl (cI, 64, .inl pcs))]) (va_Qi (fun (r : Int32) (u : (Nat → Int32)) => post r u) (fun (u : (Nat → Int32)) t => va_P (dC, dI) vwCl [(aM, .inr (5, [.ref aZ, .ref aPast, .int pastMany, .ref aKz, .int isKept, .ref aBuf, .int typed, .ref aStk, .ref aLaid, .int wid, .int hei, .ref aPcs, .ref aTold, .int toldMany, .int spot, .int wrong])), (aZ, .inl (cI, 207, .inl zz)), (aPcs, .inl (cI, 64, .inl u))] t.heap ∧ va_K (dC, dI) vwCl (gn_tys cI cC cS) t ∧ va_D (va_A [(aM, .inr (5, [.ref aZ, .ref aPast, .int pastMany, .ref aKz, .int isKept, .ref aBuf, .int typed, .ref aStk, .ref aLaid, .int wid, .int hei, .ref aPcs, .ref aTold, .int toldMany, .int spot, .int wrong])), (aZ, .inl (cI, 207, .inl zz)), (aPcs, .inl (cI, 64, .inl pcs))] sz) [(aM, .inr (5, [.ref aZ, .ref aPast, .int pastMany, .ref aKz, .int isKept, .ref aBuf, .int typed, .ref aStk, .ref aLaid, .int wid, .int hei, .ref aPcs, .ref aTold, .int toldMany, .int spot, .int wrong])), (aZ, .inl (cI, 207, .inl zz)), (aPcs, .inl (cI, 64, .inl u))]) (va_A [(aM, .inr (5, [.ref aZ, .ref aPast, .int pastMany, .ref aKz, .int isKept, .ref aBuf, .int typed, .ref aStk, .ref aLaid, .int wid, .int hei, .ref aPcs, .ref aTold, .int toldMany, .int spot, .int wrong])), (aZ, .inl (cI, 207, .inl zz)), (aPcs, .inl (cI, 64, .inl pcs))] sz)) 0 0 (va_A [(aM, .inr (5, [.ref aZ, .ref aPast, .int pastMany, .ref aKz, .int isKept, .ref aBuf, .int typed, .ref aStk, .ref aLaid, .int wid, .int hei, .ref aPcs, .ref aTold, .int toldMany, .int spot, .int wrong])), (aZ, .inl (cI, 207, .inl zz)), (aPcs, .inl (cI, 64, .inl pcs))] sz) := by
  unfold wp_X6_count at hq
  refine Met.ofW (cc := cX6_count) (maxL := 4) (ret := (some .int)) (by decide) rfl ?_
  intro p e s m args below meth c s₁ B hml hv
  obtain ⟨rfl, hsz, hP, hK, hN, hD0⟩ := hv
  have hx := B.exec
  have hb := B.bytes
  have hr := B.returns
  have hts := atoms_spec (ws := wsX6_count) B.pre
  have hown : s.vm.findClass RX6 = some m.cls := findClass_of_methodNamed B.named
  have hlocks := B.notSynchronized
  subst hsz
  have hD := hD0.self (sz := s.heap.size)
  generalize hAe : va_A [(aM, .inr (5, [.ref aZ, .ref aPast, .int pastMany, .ref aKz, .int isKept, .ref aBuf, .int typed, .ref aStk, .ref aLaid, .int wid, .int hei, .ref aPcs, .ref aTold, .int toldMany, .int spot, .int wrong])), (aZ, .inl (cI, 207, .inl zz)), (aPcs, .inl (cI, 64, .inl pcs))] s.heap.size = A at hD ⊢
  have hA : ∀ q : Nat, s.heap.size ≤ q → A q := fun q h => by rw [← hAe]; exact Or.inr h
  have hS : va_S A s.heap s.heap [] := va_S.rf
  have hl := lv_entry ([.ref aM, .int x1] : List Value) (n := 4) (Nat.le_of_ble_eq_true rfl)
  rw [lg_entry_eq]
  generalize (lg_sl ([.ref aM, .int x1] : List Value) ++ List.replicate (4 - (lg_sl ([.ref aM, .int x1] : List Value)).length) Slot.unset).toArray = ls at hl ⊢
  have hl : lv_has ls 4 [(0, .ref aM), (1, .int x1)] := hl
  refine gn_Q (hret := fun Q => ∀ (pc : Nat) (ls : Array Slot) (H : Heap) (locs : List Loc) (r : Int32) (m_pcs : Nat → Int32), decode cX6_count pc = .ok (.ireturn, 1) → va_P (dC, dI) vwCl [(aM, .inr (5, [.ref aZ, .ref aPast, .int pastMany, .ref aKz, .int isKept, .ref aBuf, .int typed, .ref aStk, .ref aLaid, .int wid, .int hei, .ref aPcs, .ref aTold, .int toldMany, .int spot, .int wrong])), (aZ, .inl (cI, 207, .inl zz)), (aPcs, .inl (cI, 64, .inl m_pcs))] H → va_D A [(aM, .inr (5, [.ref aZ, .ref aPast, .int pastMany, .ref aKz, .int isKept, .ref aBuf, .int typed, .ref aStk, .ref aLaid, .int wid, .int hei, .ref aPcs, .ref aTold, .int toldMany, .int spot, .int wrong])), (aZ, .inl (cI, 207, .inl zz)), (aPcs, .inl (cI, 64, .inl m_pcs))] → va_S A s.heap H locs → post r m_pcs → W p l e ({ frames := 3, cells := 0, slots := 0, locals := 69 } : Room) s m ([.ref aM, .int x1] : List Value).toArray below meth c H locs 0 0 Q (F0 m pc ls [.int r])) (fun Q hret => ?_) ?_
  rotate_left
  · intro pc ls H locs r m_pcs hdg hP hD hS hpost
    exact W.iret (v := r) hx hb hr (fun t ht hW => ⟨⟨r, m_pcs, rfl, hpost, by rw [ht]; exact hP, va_K.moved hW.alike hK, hD⟩, hS.F ht⟩) hS.2.2 hdg
  refine lv_iconst (v := 0) hx hb dX6_count_0 (by decide) ?_
  refine lv_istore_n (lv' := [(2, .int (0 : Int32)), (0, .ref aM), (1, .int x1)]) hx hb dX6_count_1 rfl hl (by decide) rfl (fun ls hl => ?_)
  refine lv_iload_n hx hb dX6_count_2 rfl (lv_at hl 2 rfl) ?_
  rcases gn_sw (0) (5) x1 with hO | ⟨j, hj, hj2⟩
  · have hq := hq.1 hO
    refine lv_tableOut (tgt := 180) hx hb dX6_count_3 hO (by decide) ?_
    refine lv_bipush (v := -2) hx hb dX6_count_180 (by decide) ?_
    exact hret _ _ _ _ _ _ dX6_count_182 hP hD hS hq
  · have hq := hq.2
    have hj3 : j = 0 ∨ j = 1 ∨ j = 2 ∨ j = 3 ∨ j = 4 ∨ j = 5 := by omega
    rcases hj3 with rfl | rfl | rfl | rfl | rfl | rfl
    · have hc : x1 = (0 : Int32) := hj2.trans (by decide)
      have hq := hq.1 hc
      refine lv_tableIn (off := 37) (tgt := 40) hx hb dX6_count_3 (by rw [hc]; decide) (by rw [hc]; decide) (by rw [hc]; rfl) (by decide) ?_
      refine lv_iconst (v := 0) hx hb dX6_count_40 (by decide) ?_
      refine lv_istore_n (lv' := [(3, .int (0 : Int32)), (2, .int (0 : Int32)), (0, .ref aM), (1, .int x1)]) hx hb dX6_count_41 rfl hl (by decide) rfl (fun ls hl => ?_)
      have hq := hq (fun (v2_1 : Int32) (v3_2 : Int32) => ∀ (H : Heap) (locs : List Loc) (ls : Array Slot), va_P (dC, dI) vwCl [(aM, .inr (5, [.ref aZ, .ref aPast, .int pastMany, .ref aKz, .int isKept, .ref aBuf, .int typed, .ref aStk, .ref aLaid, .int wid, .int hei, .ref aPcs, .ref aTold, .int toldMany, .int spot, .int wrong])), (aZ, .inl (cI, 207, .inl zz)), (aPcs, .inl (cI, 64, .inl pcs))] H → va_D A [(aM, .inr (5, [.ref aZ, .ref aPast, .int pastMany, .ref aKz, .int isKept, .ref aBuf, .int typed, .ref aStk, .ref aLaid, .int wid, .int hei, .ref aPcs, .ref aTold, .int toldMany, .int spot, .int wrong])), (aZ, .inl (cI, 207, .inl zz)), (aPcs, .inl (cI, 64, .inl pcs))] → va_S A s.heap H locs → lv_has ls 4 [(0, .ref aM), (2, .int v2_1), (3, .int v3_2)] → W p l e ({ frames := 3, cells := 0, slots := 0, locals := 69 } : Room) s m ([.ref aM, .int x1] : List Value).toArray below meth c H locs 0 0 Q (F0 m 42 ls [])) (by
        intro v2_1 v3_2 hq H locs ls hP hD hS hl
        refine lv_iload_n hx hb dX6_count_42 rfl (lv_at hl 2 rfl) ?_
        refine lv_bipush (v := 64) hx hb dX6_count_43 (by decide) ?_
        refine lv_icmp_ge (tgt := 66) hx hb dX6_count_45 (by decide) (fun hc => ?_) (fun hc => ?_)
        · have hq := hq.1 hc
          refine lv_iload_n hx hb dX6_count_66 rfl (lv_at hl 1 rfl) ?_
          exact hret _ _ _ _ _ _ dX6_count_67 hP hD hS hq
        · have hq := hq.2 hc
          refine lv_iload_n hx hb dX6_count_48 rfl (lv_at hl 1 rfl) ?_
          refine lv_aload_n hx hb dX6_count_49 rfl (lv_at hl 0 rfl) ?_
          refine va_get (D := (dC, dI)) (ci := 5) (v := .ref aZ) (C := RX6) (T := TX6) (N := 16) hx hb hts iwX6_count_X6 hown hK hP 0 rfl rfl 0 (by decide) (hts _ kwX6_count_7) (fun _ h9 => h9) rfl dX6_count_50 ?_
          refine lv_bipush (v := 7) hx hb dX6_count_53 (by decide) ?_
          refine lv_iload_n hx hb dX6_count_55 rfl (lv_at hl 2 rfl) ?_
          refine lv_iadd hx hb dX6_count_56 ?_
          have hin := hq.1
          have hq := hq.2
          refine va_iald hx hb hK hP 1 0 rfl rfl hin dX6_count_57 ?_
          refine lv_iadd hx hb dX6_count_58 ?_
          refine lv_topi (fun w2_3 ew2_3 => ?_)
          have hq := hq w2_3 ew2_3
          refine lv_istore_n (lv' := [(2, .int w2_3), (0, .ref aM), (3, .int v3_2)]) hx hb dX6_count_59 rfl hl (by decide) rfl (fun ls hl => ?_)
          refine lv_iinc (v := (v3_2 + (1 : Int32))) (lv' := [(3, .int (v3_2 + (1 : Int32))), (2, .int w2_3), (0, .ref aM)]) hx hb dX6_count_60 hl (k := 2) rfl rfl (by decide) rfl (fun ls hl => ?_)
          refine lv_goto (tgt := 42) hx hb dX6_count_63 (by decide) ?_
          exact hq _ _ _ hP hD hS (lv_sub hl [2, 1, 0] rfl))
      exact hq _ _ _ hP hD hS (lv_sub hl [2, 1, 0] rfl)
    · have hc : x1 = (1 : Int32) := hj2.trans (by decide)
      have hq := hq.2.1 hc
      refine lv_tableIn (off := 65) (tgt := 68) hx hb dX6_count_3 (by rw [hc]; decide) (by rw [hc]; decide) (by rw [hc]; rfl) (by decide) ?_
      refine lv_aload_n hx hb dX6_count_68 rfl (lv_at hl 1 rfl) ?_
      have hPc := hP.sub (ws' := [(aM, .inr (5, [.ref aZ, .ref aPast, .int pastMany, .ref aKz, .int isKept, .ref aBuf, .int typed, .ref aStk, .ref aLaid, .int wid, .int hei, .ref aPcs, .ref aTold, .int toldMany, .int spot, .int wrong])), (aZ, .inl (cI, 207, .inl zz)), (aPcs, .inl (cI, 64, .inl pcs))]) [0, 1, 2] rfl
      have hDc := hD.sub (ws' := [(aM, .inr (5, [.ref aZ, .ref aPast, .int pastMany, .ref aKz, .int isKept, .ref aBuf, .int typed, .ref aStk, .ref aLaid, .int wid, .int hei, .ref aPcs, .ref aTold, .int toldMany, .int spot, .int wrong])), (aZ, .inl (cI, 207, .inl zz)), (aPcs, .inl (cI, 64, .inl pcs))]) [0, 1, 2] (by decide) rfl
      have hFc := va_free (wc := [(aM, .inr (5, [.ref aZ, .ref aPast, .int pastMany, .ref aKz, .int isKept, .ref aBuf, .int typed, .ref aStk, .ref aLaid, .int wid, .int hei, .ref aPcs, .ref aTold, .int toldMany, .int spot, .int wrong])), (aZ, .inl (cI, 207, .inl zz)), (aPcs, .inl (cI, 64, .inl pcs))]) hD hS hA [0, 1, 2] rfl
      refine va_calli (va_runV (As := []) (rest := []) ⟨hx, hb, hml, hown, hts⟩ (c_X6_pieceMany l dC dI cI cC cS aM aZ aPast aKz aBuf aStk aLaid aPcs aTold _ pastMany isKept typed wid hei toldMany spot wrong zz pcs hq) (cwV 0 hts gX6_count_X6_pieceMany rfl rfl rfl (by decide +kernel) ⟨Nat.le_of_ble_eq_true rfl, Nat.le_of_ble_eq_true rfl⟩) (gn_preV hPc hK hN hDc (ci := 5) (q0 := 0) rfl rfl) rfl rfl hl.1 rfl (lv_room (Nat.le_of_ble_eq_true rfl)) dX6_count_69 ⟨Nat.zero_le _, Nat.zero_le _⟩) hS (fun q _ h => hFc q h) hFc (fun r_4 u t H1 locs ht hvm hq hB hz1 hk1 hS => ?_)
      obtain ⟨pcs__5, rfl⟩ : ∃ z, z = u := ⟨_, rfl⟩
      obtain ⟨hP1, hK1, hD1⟩ := hB
      rw [ht] at hP1
      try dsimp only at hq
      obtain ⟨hP, hD⟩ := va_join (wr := []) (w1 := [(aM, .inr (5, [.ref aZ, .ref aPast, .int pastMany, .ref aKz, .int isKept, .ref aBuf, .int typed, .ref aStk, .ref aLaid, .int wid, .int hei, .ref aPcs, .ref aTold, .int toldMany, .int spot, .int wrong])), (aZ, .inl (cI, 207, .inl zz)), (aPcs, .inl (cI, 64, .inl pcs__5))]) hP hD [0, 1, 2] [] rfl rfl (by decide) (by decide) hk1 hFc hP1 hD1
      have hP := hP.sub (ws' := [(aM, .inr (5, [.ref aZ, .ref aPast, .int pastMany, .ref aKz, .int isKept, .ref aBuf, .int typed, .ref aStk, .ref aLaid, .int wid, .int hei, .ref aPcs, .ref aTold, .int toldMany, .int spot, .int wrong])), (aZ, .inl (cI, 207, .inl zz)), (aPcs, .inl (cI, 64, .inl pcs__5))]) [0, 1, 2] rfl
      have hD := hD.sub (ws' := [(aM, .inr (5, [.ref aZ, .ref aPast, .int pastMany, .ref aKz, .int isKept, .ref aBuf, .int typed, .ref aStk, .ref aLaid, .int wid, .int hei, .ref aPcs, .ref aTold, .int toldMany, .int spot, .int wrong])), (aZ, .inl (cI, 207, .inl zz)), (aPcs, .inl (cI, 64, .inl pcs__5))]) [0, 1, 2] (by decide) rfl
      generalize H1 = H at hP hS ⊢
      exact hret _ _ _ _ _ _ dX6_count_72 hP hD hS hq
    · have hc : x1 = (2 : Int32) := hj2.trans (by decide)
      have hq := hq.2.2.1 hc
      refine lv_tableIn (off := 70) (tgt := 73) hx hb dX6_count_3 (by rw [hc]; decide) (by rw [hc]; decide) (by rw [hc]; rfl) (by decide) ?_
      refine lv_aload_n hx hb dX6_count_73 rfl (lv_at hl 1 rfl) ?_
      have hPc := hP.sub (ws' := [(aM, .inr (5, [.ref aZ, .ref aPast, .int pastMany, .ref aKz, .int isKept, .ref aBuf, .int typed, .ref aStk, .ref aLaid, .int wid, .int hei, .ref aPcs, .ref aTold, .int toldMany, .int spot, .int wrong])), (aZ, .inl (cI, 207, .inl zz)), (aPcs, .inl (cI, 64, .inl pcs))]) [0, 1, 2] rfl
      have hDc := hD.sub (ws' := [(aM, .inr (5, [.ref aZ, .ref aPast, .int pastMany, .ref aKz, .int isKept, .ref aBuf, .int typed, .ref aStk, .ref aLaid, .int wid, .int hei, .ref aPcs, .ref aTold, .int toldMany, .int spot, .int wrong])), (aZ, .inl (cI, 207, .inl zz)), (aPcs, .inl (cI, 64, .inl pcs))]) [0, 1, 2] (by decide) rfl
      have hFc := va_free (wc := [(aM, .inr (5, [.ref aZ, .ref aPast, .int pastMany, .ref aKz, .int isKept, .ref aBuf, .int typed, .ref aStk, .ref aLaid, .int wid, .int hei, .ref aPcs, .ref aTold, .int toldMany, .int spot, .int wrong])), (aZ, .inl (cI, 207, .inl zz)), (aPcs, .inl (cI, 64, .inl pcs))]) hD hS hA [0, 1, 2] rfl
      refine va_calli (va_runV (As := []) (rest := []) ⟨hx, hb, hml, hown, hts⟩ (c_X6_largest l dC dI cI cC cS aM aZ aPast aKz aBuf aStk aLaid aPcs aTold _ pastMany isKept typed wid hei toldMany spot wrong zz pcs hq) (cwV 0 hts gX6_count_X6_largest rfl rfl rfl (by decide +kernel) ⟨Nat.le_of_ble_eq_true rfl, Nat.le_of_ble_eq_true rfl⟩) (gn_preV hPc hK hN hDc (ci := 5) (q0 := 0) rfl rfl) rfl rfl hl.1 rfl (lv_room (Nat.le_of_ble_eq_true rfl)) dX6_count_74 ⟨Nat.zero_le _, Nat.zero_le _⟩) hS (fun q _ h => hFc q h) hFc (fun r_6 u t H1 locs ht hvm hq hB hz1 hk1 hS => ?_)
      obtain ⟨pcs__7, rfl⟩ : ∃ z, z = u := ⟨_, rfl⟩
      obtain ⟨hP1, hK1, hD1⟩ := hB
      rw [ht] at hP1
      try dsimp only at hq
      obtain ⟨hP, hD⟩ := va_join (wr := []) (w1 := [(aM, .inr (5, [.ref aZ, .ref aPast, .int pastMany, .ref aKz, .int isKept, .ref aBuf, .int typed, .ref aStk, .ref aLaid, .int wid, .int hei, .ref aPcs, .ref aTold, .int toldMany, .int spot, .int wrong])), (aZ, .inl (cI, 207, .inl zz)), (aPcs, .inl (cI, 64, .inl pcs__7))]) hP hD [0, 1, 2] [] rfl rfl (by decide) (by decide) hk1 hFc hP1 hD1
      have hP := hP.sub (ws' := [(aM, .inr (5, [.ref aZ, .ref aPast, .int pastMany, .ref aKz, .int isKept, .ref aBuf, .int typed, .ref aStk, .ref aLaid, .int wid, .int hei, .ref aPcs, .ref aTold, .int toldMany, .int spot, .int wrong])), (aZ, .inl (cI, 207, .inl zz)), (aPcs, .inl (cI, 64, .inl pcs__7))]) [0, 1, 2] rfl
      have hD := hD.sub (ws' := [(aM, .inr (5, [.ref aZ, .ref aPast, .int pastMany, .ref aKz, .int isKept, .ref aBuf, .int typed, .ref aStk, .ref aLaid, .int wid, .int hei, .ref aPcs, .ref aTold, .int toldMany, .int spot, .int wrong])), (aZ, .inl (cI, 207, .inl zz)), (aPcs, .inl (cI, 64, .inl pcs__7))]) [0, 1, 2] (by decide) rfl
      generalize H1 = H at hP hS ⊢
      exact hret _ _ _ _ _ _ dX6_count_77 hP hD hS hq
    · have hc : x1 = (3 : Int32) := hj2.trans (by decide)
      have hq := hq.2.2.2.1 hc
      refine lv_tableIn (off := 75) (tgt := 78) hx hb dX6_count_3 (by rw [hc]; decide) (by rw [hc]; decide) (by rw [hc]; rfl) (by decide) ?_
      refine lv_iconst (v := 0) hx hb dX6_count_78 (by decide) ?_
      refine lv_istore_n (lv' := [(3, .int (0 : Int32)), (2, .int (0 : Int32)), (0, .ref aM), (1, .int x1)]) hx hb dX6_count_79 rfl hl (by decide) rfl (fun ls hl => ?_)
      have hq := hq (fun (v2_8 : Int32) (v3_9 : Int32) => ∀ (H : Heap) (locs : List Loc) (ls : Array Slot), va_P (dC, dI) vwCl [(aM, .inr (5, [.ref aZ, .ref aPast, .int pastMany, .ref aKz, .int isKept, .ref aBuf, .int typed, .ref aStk, .ref aLaid, .int wid, .int hei, .ref aPcs, .ref aTold, .int toldMany, .int spot, .int wrong])), (aZ, .inl (cI, 207, .inl zz)), (aPcs, .inl (cI, 64, .inl pcs))] H → va_D A [(aM, .inr (5, [.ref aZ, .ref aPast, .int pastMany, .ref aKz, .int isKept, .ref aBuf, .int typed, .ref aStk, .ref aLaid, .int wid, .int hei, .ref aPcs, .ref aTold, .int toldMany, .int spot, .int wrong])), (aZ, .inl (cI, 207, .inl zz)), (aPcs, .inl (cI, 64, .inl pcs))] → va_S A s.heap H locs → lv_has ls 4 [(0, .ref aM), (2, .int v2_8), (3, .int v3_9)] → W p l e ({ frames := 3, cells := 0, slots := 0, locals := 69 } : Room) s m ([.ref aM, .int x1] : List Value).toArray below meth c H locs 0 0 Q (F0 m 80 ls [])) (by
        intro v2_8 v3_9 hq H locs ls hP hD hS hl
        refine lv_iload_n hx hb dX6_count_80 rfl (lv_at hl 2 rfl) ?_
        refine lv_sipush (v := 128) hx hb dX6_count_81 (by decide) ?_
        refine lv_icmp_ge (tgt := 113) hx hb dX6_count_84 (by decide) (fun hc => ?_) (fun hc => ?_)
        · have hq := hq.1 hc
          refine lv_iload_n hx hb dX6_count_113 rfl (lv_at hl 1 rfl) ?_
          exact hret _ _ _ _ _ _ dX6_count_114 hP hD hS hq
        · have hq := hq.2 hc
          refine lv_iload_n hx hb dX6_count_87 rfl (lv_at hl 1 rfl) ?_
          refine lv_aload_n hx hb dX6_count_88 rfl (lv_at hl 0 rfl) ?_
          refine va_get (D := (dC, dI)) (ci := 5) (v := .ref aZ) (C := RX6) (T := TX6) (N := 16) hx hb hts iwX6_count_X6 hown hK hP 0 rfl rfl 0 (by decide) (hts _ kwX6_count_7) (fun _ h9 => h9) rfl dX6_count_89 ?_
          refine lv_bipush (v := 71) hx hb dX6_count_92 (by decide) ?_
          refine lv_iload_n hx hb dX6_count_94 rfl (lv_at hl 2 rfl) ?_
          refine lv_iadd hx hb dX6_count_95 ?_
          have hin := hq.1
          have hq := hq.2
          refine va_iald hx hb hK hP 1 0 rfl rfl hin dX6_count_96 ?_
          have hq := hq (fun (t_10 : Int32) => ∀ (H : Heap) (locs : List Loc) (ls : Array Slot), va_P (dC, dI) vwCl [(aM, .inr (5, [.ref aZ, .ref aPast, .int pastMany, .ref aKz, .int isKept, .ref aBuf, .int typed, .ref aStk, .ref aLaid, .int wid, .int hei, .ref aPcs, .ref aTold, .int toldMany, .int spot, .int wrong])), (aZ, .inl (cI, 207, .inl zz)), (aPcs, .inl (cI, 64, .inl pcs))] H → va_D A [(aM, .inr (5, [.ref aZ, .ref aPast, .int pastMany, .ref aKz, .int isKept, .ref aBuf, .int typed, .ref aStk, .ref aLaid, .int wid, .int hei, .ref aPcs, .ref aTold, .int toldMany, .int spot, .int wrong])), (aZ, .inl (cI, 207, .inl zz)), (aPcs, .inl (cI, 64, .inl pcs))] → va_S A s.heap H locs → lv_has ls 4 [(0, .ref aM), (3, .int v3_9)] → W p l e ({ frames := 3, cells := 0, slots := 0, locals := 69 } : Room) s m ([.ref aM, .int x1] : List Value).toArray below meth c H locs 0 0 Q (F0 m 105 ls [.int t_10, .int v2_8])) (by
            intro t_10 hq H locs ls hP hD hS hl
            refine lv_iadd hx hb dX6_count_105 ?_
            refine lv_topi (fun w2_11 ew2_11 => ?_)
            have hq := hq w2_11 ew2_11
            refine lv_istore_n (lv' := [(2, .int w2_11), (0, .ref aM), (3, .int v3_9)]) hx hb dX6_count_106 rfl hl (by decide) rfl (fun ls hl => ?_)
            refine lv_iinc (v := (v3_9 + (1 : Int32))) (lv' := [(3, .int (v3_9 + (1 : Int32))), (2, .int w2_11), (0, .ref aM)]) hx hb dX6_count_107 hl (k := 2) rfl rfl (by decide) rfl (fun ls hl => ?_)
            refine lv_goto (tgt := 80) hx hb dX6_count_110 (by decide) ?_
            exact hq _ _ _ hP hD hS (lv_sub hl [2, 1, 0] rfl))
          refine lv_if_ne (tgt := 104) hx hb dX6_count_97 (by decide) (fun hc => ?_) (fun hc => ?_)
          · have hq := hq.1 hc
            refine lv_iconst (v := 1) hx hb dX6_count_104 (by decide) ?_
            exact hq _ _ _ hP hD hS (lv_sub hl [0, 2] rfl)
          · have hq := hq.2 hc
            refine lv_iconst (v := 0) hx hb dX6_count_100 (by decide) ?_
            refine lv_goto (tgt := 105) hx hb dX6_count_101 (by decide) ?_
            exact hq _ _ _ hP hD hS (lv_sub hl [0, 2] rfl))
      exact hq _ _ _ hP hD hS (lv_sub hl [2, 1, 0] rfl)
    · have hc : x1 = (4 : Int32) := hj2.trans (by decide)
      have hq := hq.2.2.2.2.1 hc
      refine lv_tableIn (off := 112) (tgt := 115) hx hb dX6_count_3 (by rw [hc]; decide) (by rw [hc]; decide) (by rw [hc]; rfl) (by decide) ?_
      refine lv_iconst (v := 0) hx hb dX6_count_115 (by decide) ?_
      refine lv_istore_n (lv' := [(3, .int (0 : Int32)), (2, .int (0 : Int32)), (0, .ref aM), (1, .int x1)]) hx hb dX6_count_116 rfl hl (by decide) rfl (fun ls hl => ?_)
      have hq := hq (fun (v2_12 : Int32) (v3_13 : Int32) => ∀ (H : Heap) (locs : List Loc) (ls : Array Slot), va_P (dC, dI) vwCl [(aM, .inr (5, [.ref aZ, .ref aPast, .int pastMany, .ref aKz, .int isKept, .ref aBuf, .int typed, .ref aStk, .ref aLaid, .int wid, .int hei, .ref aPcs, .ref aTold, .int toldMany, .int spot, .int wrong])), (aZ, .inl (cI, 207, .inl zz)), (aPcs, .inl (cI, 64, .inl pcs))] H → va_D A [(aM, .inr (5, [.ref aZ, .ref aPast, .int pastMany, .ref aKz, .int isKept, .ref aBuf, .int typed, .ref aStk, .ref aLaid, .int wid, .int hei, .ref aPcs, .ref aTold, .int toldMany, .int spot, .int wrong])), (aZ, .inl (cI, 207, .inl zz)), (aPcs, .inl (cI, 64, .inl pcs))] → va_S A s.heap H locs → lv_has ls 4 [(0, .ref aM), (2, .int v2_12), (3, .int v3_13)] → W p l e ({ frames := 3, cells := 0, slots := 0, locals := 69 } : Room) s m ([.ref aM, .int x1] : List Value).toArray below meth c H locs 0 0 Q (F0 m 117 ls [])) (by
        intro v2_12 v3_13 hq H locs ls hP hD hS hl
        refine lv_iload_n hx hb dX6_count_117 rfl (lv_at hl 2 rfl) ?_
        refine lv_bipush (v := 64) hx hb dX6_count_118 (by decide) ?_
        refine lv_icmp_ge (tgt := 137) hx hb dX6_count_120 (by decide) (fun hc => ?_) (fun hc => ?_)
        · have hq := hq.1 hc
          refine lv_iload_n hx hb dX6_count_137 rfl (lv_at hl 1 rfl) ?_
          exact hret _ _ _ _ _ _ dX6_count_138 hP hD hS hq
        · have hq := hq.2 hc
          refine lv_iload_n hx hb dX6_count_123 rfl (lv_at hl 1 rfl) ?_
          refine lv_aload_n hx hb dX6_count_124 rfl (lv_at hl 0 rfl) ?_
          refine lv_iload_n hx hb dX6_count_125 rfl (lv_at hl 2 rfl) ?_
          have hPc := hP.sub (ws' := [(aM, .inr (5, [.ref aZ, .ref aPast, .int pastMany, .ref aKz, .int isKept, .ref aBuf, .int typed, .ref aStk, .ref aLaid, .int wid, .int hei, .ref aPcs, .ref aTold, .int toldMany, .int spot, .int wrong])), (aZ, .inl (cI, 207, .inl zz))]) [0, 1] rfl
          have hDc := hD.sub (ws' := [(aM, .inr (5, [.ref aZ, .ref aPast, .int pastMany, .ref aKz, .int isKept, .ref aBuf, .int typed, .ref aStk, .ref aLaid, .int wid, .int hei, .ref aPcs, .ref aTold, .int toldMany, .int spot, .int wrong])), (aZ, .inl (cI, 207, .inl zz))]) [0, 1] (by decide) rfl
          have hFc := va_free (wc := [(aM, .inr (5, [.ref aZ, .ref aPast, .int pastMany, .ref aKz, .int isKept, .ref aBuf, .int typed, .ref aStk, .ref aLaid, .int wid, .int hei, .ref aPcs, .ref aTold, .int toldMany, .int spot, .int wrong])), (aZ, .inl (cI, 207, .inl zz))]) hD hS hA [0, 1] rfl
          refine va_calli (va_runV (As := [.int v3_13]) (rest := [.int v2_12]) ⟨hx, hb, hml, hown, hts⟩ (c_X6_wanted l dC dI cI cC cS aM aZ aPast aKz aBuf aStk aLaid aPcs aTold _ pastMany isKept typed wid hei toldMany spot wrong zz v3_13 hq) (cwV 1 hts gX6_count_X6_wanted rfl rfl rfl (by decide +kernel) ⟨Nat.le_of_ble_eq_true rfl, Nat.le_of_ble_eq_true rfl⟩) (gn_preV hPc hK hN hDc (ci := 5) (q0 := 0) rfl rfl) rfl rfl hl.1 rfl (lv_room (Nat.le_of_ble_eq_true rfl)) dX6_count_126 ⟨Nat.zero_le _, Nat.zero_le _⟩) hS (fun q _ h => hFc q h) hFc (fun r_14 u t H1 locs ht hvm hq hB hz1 hk1 hS => ?_)
          obtain ⟨hP1, hK1, hD1⟩ := hB
          rw [ht] at hP1
          try dsimp only at hq
          obtain ⟨hP, hD⟩ := va_join (wr := [(aPcs, .inl (cI, 64, .inl pcs))]) (w1 := [(aM, .inr (5, [.ref aZ, .ref aPast, .int pastMany, .ref aKz, .int isKept, .ref aBuf, .int typed, .ref aStk, .ref aLaid, .int wid, .int hei, .ref aPcs, .ref aTold, .int toldMany, .int spot, .int wrong])), (aZ, .inl (cI, 207, .inl zz))]) hP hD [0, 1] [2] rfl rfl (by decide) (by decide) hk1 hFc hP1 hD1
          have hP := hP.sub (ws' := [(aM, .inr (5, [.ref aZ, .ref aPast, .int pastMany, .ref aKz, .int isKept, .ref aBuf, .int typed, .ref aStk, .ref aLaid, .int wid, .int hei, .ref aPcs, .ref aTold, .int toldMany, .int spot, .int wrong])), (aZ, .inl (cI, 207, .inl zz)), (aPcs, .inl (cI, 64, .inl pcs))]) [1, 2, 0] rfl
          have hD := hD.sub (ws' := [(aM, .inr (5, [.ref aZ, .ref aPast, .int pastMany, .ref aKz, .int isKept, .ref aBuf, .int typed, .ref aStk, .ref aLaid, .int wid, .int hei, .ref aPcs, .ref aTold, .int toldMany, .int spot, .int wrong])), (aZ, .inl (cI, 207, .inl zz)), (aPcs, .inl (cI, 64, .inl pcs))]) [1, 2, 0] (by decide) rfl
          generalize H1 = H at hP hS ⊢
          refine lv_iadd hx hb dX6_count_129 ?_
          refine lv_topi (fun w2_15 ew2_15 => ?_)
          have hq := hq w2_15 ew2_15
          refine lv_istore_n (lv' := [(2, .int w2_15), (0, .ref aM), (3, .int v3_13)]) hx hb dX6_count_130 rfl hl (by decide) rfl (fun ls hl => ?_)
          refine lv_iinc (v := (v3_13 + (1 : Int32))) (lv' := [(3, .int (v3_13 + (1 : Int32))), (2, .int w2_15), (0, .ref aM)]) hx hb dX6_count_131 hl (k := 2) rfl rfl (by decide) rfl (fun ls hl => ?_)
          refine lv_goto (tgt := 117) hx hb dX6_count_134 (by decide) ?_
          exact hq _ _ _ hP hD hS (lv_sub hl [2, 1, 0] rfl))
      exact hq _ _ _ hP hD hS (lv_sub hl [2, 1, 0] rfl)
    · have hc : x1 = (5 : Int32) := hj2.trans (by decide)
      have hq := hq.2.2.2.2.2 hc
      refine lv_tableIn (off := 136) (tgt := 139) hx hb dX6_count_3 (by rw [hc]; decide) (by rw [hc]; decide) (by rw [hc]; rfl) (by decide) ?_
      refine lv_iconst (v := 0) hx hb dX6_count_139 (by decide) ?_
      refine lv_istore_n (lv' := [(3, .int (0 : Int32)), (2, .int (0 : Int32)), (0, .ref aM), (1, .int x1)]) hx hb dX6_count_140 rfl hl (by decide) rfl (fun ls hl => ?_)
      have hq := hq (fun (v2_16 : Int32) (v3_17 : Int32) => ∀ (H : Heap) (locs : List Loc) (ls : Array Slot), va_P (dC, dI) vwCl [(aM, .inr (5, [.ref aZ, .ref aPast, .int pastMany, .ref aKz, .int isKept, .ref aBuf, .int typed, .ref aStk, .ref aLaid, .int wid, .int hei, .ref aPcs, .ref aTold, .int toldMany, .int spot, .int wrong])), (aZ, .inl (cI, 207, .inl zz)), (aPcs, .inl (cI, 64, .inl pcs))] H → va_D A [(aM, .inr (5, [.ref aZ, .ref aPast, .int pastMany, .ref aKz, .int isKept, .ref aBuf, .int typed, .ref aStk, .ref aLaid, .int wid, .int hei, .ref aPcs, .ref aTold, .int toldMany, .int spot, .int wrong])), (aZ, .inl (cI, 207, .inl zz)), (aPcs, .inl (cI, 64, .inl pcs))] → va_S A s.heap H locs → lv_has ls 4 [(0, .ref aM), (2, .int v2_16), (3, .int v3_17)] → W p l e ({ frames := 3, cells := 0, slots := 0, locals := 69 } : Room) s m ([.ref aM, .int x1] : List Value).toArray below meth c H locs 0 0 Q (F0 m 141 ls [])) (by
        intro v2_16 v3_17 hq H locs ls hP hD hS hl
        refine lv_iload_n hx hb dX6_count_141 rfl (lv_at hl 2 rfl) ?_
        refine lv_bipush (v := 64) hx hb dX6_count_142 (by decide) ?_
        refine lv_icmp_ge (tgt := 178) hx hb dX6_count_144 (by decide) (fun hc => ?_) (fun hc => ?_)
        · have hq := hq.1 hc
          refine lv_iload_n hx hb dX6_count_178 rfl (lv_at hl 1 rfl) ?_
          exact hret _ _ _ _ _ _ dX6_count_179 hP hD hS hq
        · have hq := hq.2 hc
          refine lv_iload_n hx hb dX6_count_147 rfl (lv_at hl 1 rfl) ?_
          refine lv_aload_n hx hb dX6_count_148 rfl (lv_at hl 0 rfl) ?_
          refine lv_iload_n hx hb dX6_count_149 rfl (lv_at hl 2 rfl) ?_
          have hPc := hP.sub (ws' := [(aM, .inr (5, [.ref aZ, .ref aPast, .int pastMany, .ref aKz, .int isKept, .ref aBuf, .int typed, .ref aStk, .ref aLaid, .int wid, .int hei, .ref aPcs, .ref aTold, .int toldMany, .int spot, .int wrong])), (aZ, .inl (cI, 207, .inl zz))]) [0, 1] rfl
          have hDc := hD.sub (ws' := [(aM, .inr (5, [.ref aZ, .ref aPast, .int pastMany, .ref aKz, .int isKept, .ref aBuf, .int typed, .ref aStk, .ref aLaid, .int wid, .int hei, .ref aPcs, .ref aTold, .int toldMany, .int spot, .int wrong])), (aZ, .inl (cI, 207, .inl zz))]) [0, 1] (by decide) rfl
          have hFc := va_free (wc := [(aM, .inr (5, [.ref aZ, .ref aPast, .int pastMany, .ref aKz, .int isKept, .ref aBuf, .int typed, .ref aStk, .ref aLaid, .int wid, .int hei, .ref aPcs, .ref aTold, .int toldMany, .int spot, .int wrong])), (aZ, .inl (cI, 207, .inl zz))]) hD hS hA [0, 1] rfl
          refine va_calli (va_runV (As := [.int v3_17]) (rest := [.int v2_16]) ⟨hx, hb, hml, hown, hts⟩ (c_X6_wanted l dC dI cI cC cS aM aZ aPast aKz aBuf aStk aLaid aPcs aTold _ pastMany isKept typed wid hei toldMany spot wrong zz v3_17 hq) (cwV 1 hts gX6_count_X6_wanted rfl rfl rfl (by decide +kernel) ⟨Nat.le_of_ble_eq_true rfl, Nat.le_of_ble_eq_true rfl⟩) (gn_preV hPc hK hN hDc (ci := 5) (q0 := 0) rfl rfl) rfl rfl hl.1 rfl (lv_room (Nat.le_of_ble_eq_true rfl)) dX6_count_150 ⟨Nat.zero_le _, Nat.zero_le _⟩) hS (fun q _ h => hFc q h) hFc (fun r_18 u t H1 locs ht hvm hq hB hz1 hk1 hS => ?_)
          obtain ⟨hP1, hK1, hD1⟩ := hB
          rw [ht] at hP1
          try dsimp only at hq
          obtain ⟨hP, hD⟩ := va_join (wr := [(aPcs, .inl (cI, 64, .inl pcs))]) (w1 := [(aM, .inr (5, [.ref aZ, .ref aPast, .int pastMany, .ref aKz, .int isKept, .ref aBuf, .int typed, .ref aStk, .ref aLaid, .int wid, .int hei, .ref aPcs, .ref aTold, .int toldMany, .int spot, .int wrong])), (aZ, .inl (cI, 207, .inl zz))]) hP hD [0, 1] [2] rfl rfl (by decide) (by decide) hk1 hFc hP1 hD1
          have hP := hP.sub (ws' := [(aM, .inr (5, [.ref aZ, .ref aPast, .int pastMany, .ref aKz, .int isKept, .ref aBuf, .int typed, .ref aStk, .ref aLaid, .int wid, .int hei, .ref aPcs, .ref aTold, .int toldMany, .int spot, .int wrong])), (aZ, .inl (cI, 207, .inl zz)), (aPcs, .inl (cI, 64, .inl pcs))]) [1, 2, 0] rfl
          have hD := hD.sub (ws' := [(aM, .inr (5, [.ref aZ, .ref aPast, .int pastMany, .ref aKz, .int isKept, .ref aBuf, .int typed, .ref aStk, .ref aLaid, .int wid, .int hei, .ref aPcs, .ref aTold, .int toldMany, .int spot, .int wrong])), (aZ, .inl (cI, 207, .inl zz)), (aPcs, .inl (cI, 64, .inl pcs))]) [1, 2, 0] (by decide) rfl
          generalize H1 = H at hP hS ⊢
          refine lv_aload_n hx hb dX6_count_153 rfl (lv_at hl 0 rfl) ?_
          refine va_get (D := (dC, dI)) (ci := 5) (v := .ref aZ) (C := RX6) (T := TX6) (N := 16) hx hb hts iwX6_count_X6 hown hK hP 0 rfl rfl 0 (by decide) (hts _ kwX6_count_7) (fun _ h9 => h9) rfl dX6_count_154 ?_
          refine lv_bipush (v := 7) hx hb dX6_count_157 (by decide) ?_
          refine lv_iload_n hx hb dX6_count_159 rfl (lv_at hl 2 rfl) ?_
          refine lv_iadd hx hb dX6_count_160 ?_
          have hin := hq.1
          have hq := hq.2
          refine va_iald hx hb hK hP 1 0 rfl rfl hin dX6_count_161 ?_
          have hq := hq (fun (t_19 : Int32) => ∀ (H : Heap) (locs : List Loc) (ls : Array Slot), va_P (dC, dI) vwCl [(aM, .inr (5, [.ref aZ, .ref aPast, .int pastMany, .ref aKz, .int isKept, .ref aBuf, .int typed, .ref aStk, .ref aLaid, .int wid, .int hei, .ref aPcs, .ref aTold, .int toldMany, .int spot, .int wrong])), (aZ, .inl (cI, 207, .inl zz)), (aPcs, .inl (cI, 64, .inl pcs))] H → va_D A [(aM, .inr (5, [.ref aZ, .ref aPast, .int pastMany, .ref aKz, .int isKept, .ref aBuf, .int typed, .ref aStk, .ref aLaid, .int wid, .int hei, .ref aPcs, .ref aTold, .int toldMany, .int spot, .int wrong])), (aZ, .inl (cI, 207, .inl zz)), (aPcs, .inl (cI, 64, .inl pcs))] → va_S A s.heap H locs → lv_has ls 4 [(0, .ref aM), (3, .int v3_17)] → W p l e ({ frames := 3, cells := 0, slots := 0, locals := 69 } : Room) s m ([.ref aM, .int x1] : List Value).toArray below meth c H locs 0 0 Q (F0 m 170 ls [.int t_19, .int v2_16])) (by
            intro t_19 hq H locs ls hP hD hS hl
            refine lv_iadd hx hb dX6_count_170 ?_
            refine lv_topi (fun w2_20 ew2_20 => ?_)
            have hq := hq w2_20 ew2_20
            refine lv_istore_n (lv' := [(2, .int w2_20), (0, .ref aM), (3, .int v3_17)]) hx hb dX6_count_171 rfl hl (by decide) rfl (fun ls hl => ?_)
            refine lv_iinc (v := (v3_17 + (1 : Int32))) (lv' := [(3, .int (v3_17 + (1 : Int32))), (2, .int w2_20), (0, .ref aM)]) hx hb dX6_count_172 hl (k := 2) rfl rfl (by decide) rfl (fun ls hl => ?_)
            refine lv_goto (tgt := 141) hx hb dX6_count_175 (by decide) ?_
            exact hq _ _ _ hP hD hS (lv_sub hl [2, 1, 0] rfl))
          refine lv_icmp_ne (tgt := 169) hx hb dX6_count_162 (by decide) (fun hc => ?_) (fun hc => ?_)
          · have hq := hq.1 hc
            refine lv_iconst (v := 1) hx hb dX6_count_169 (by decide) ?_
            exact hq _ _ _ hP hD hS (lv_sub hl [0, 2] rfl)
          · have hq := hq.2 hc
            refine lv_iconst (v := 0) hx hb dX6_count_165 (by decide) ?_
            refine lv_goto (tgt := 170) hx hb dX6_count_166 (by decide) ?_
            exact hq _ _ _ hP hD hS (lv_sub hl [0, 2] rfl))
      exact hq _ _ _ hP hD hS (lv_sub hl [2, 1, 0] rfl)
